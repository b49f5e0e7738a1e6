import java.math.BigInteger;
import java.util.ArrayList;
import java.util.List;

/** A second reading of the document's terms, with whole numbers without bounds; the answers as texts. */
final class Reference {
    private static final BigInteger TOP = BigInteger.ONE.shiftLeft(64);
    private static final String NO_STATE = "throws.IllegalStateException";
    private static final String NO_ELEMENT = "throws.NoSuchElementException";
    private static final String NO_ARGUMENT = "throws.IllegalArgumentException";

    /** A room of bytes. */
    private static final class Room {
        final BigInteger place;
        final BigInteger length;

        Room(BigInteger place, BigInteger length) {
            this.place = place;
            this.length = length;
        }

        BigInteger end() {
            return place.add(length);
        }

        boolean overlaps(Room other) {
            BigInteger from = place.max(other.place);
            BigInteger to = end().min(other.end());
            return from.compareTo(to) < 0;
        }
    }

    private static final class Segment {
        long kind;
        long flags;
        BigInteger place;
        BigInteger address;
        BigInteger inFile;
        BigInteger inMemory;
        BigInteger alignment;

        boolean has(BigInteger a) {
            return address.compareTo(a) <= 0 && a.compareTo(address.add(inMemory)) < 0;
        }
    }

    private static final class Section {
        long name;
        long kind;
        BigInteger flags;
        BigInteger address;
        BigInteger place;
        BigInteger length;
        long link;
        long info;
        BigInteger alignment;
        BigInteger entry;

        Room room() {
            return new Room(place, kind == 0 || kind == 8 ? BigInteger.ZERO : length);
        }

        int count() {
            return kind == 2 ? room().length.intValueExact() / 24 : 0;
        }
    }

    private final byte[] file;
    private final List<Segment> segments = new ArrayList<>();
    private final List<Section> sections = new ArrayList<>();
    private final List<Room> fixed = new ArrayList<>();
    int rule;
    int broken = -1;

    Reference(byte[] file) {
        this.file = file;
        this.rule = firstOfHead();
        if (rule == 0) {
            readRows();
            rule = firstOfRows();
        }
        if (rule == 0 && num(16, 2) == 2 && !entryRuns()) {
            rule = 14;
        }
    }

    private BigInteger big(int place, int length) {
        BigInteger value = BigInteger.ZERO;
        for (int i = 0; i < length; i++) {
            value = value.add(BigInteger.valueOf(file[place + i] & 255).shiftLeft(8 * i));
        }
        return value;
    }

    private long num(int place, int length) {
        return big(place, length).longValueExact();
    }

    private boolean inFile(Room room) {
        return room.end().compareTo(BigInteger.valueOf(file.length)) <= 0;
    }

    private int firstOfHead() {
        if (file.length < 64) {
            return 1;
        }
        int[] mark = {127, 69, 76, 70, 2, 1, 1, 0, 0, 0, 0, 0, 0, 0, 0, 0};
        for (int i = 0; i < 16; i++) {
            if ((file[i] & 255) != mark[i]) {
                return i < 4 ? 2 : 3;
            }
        }
        if (num(16, 2) < 1 || num(16, 2) > 3 || num(18, 2) != 243 || num(20, 4) != 1) {
            return 4;
        }
        boolean segmentRows = num(56, 2) == 0 || num(54, 2) == 56;
        boolean sectionRows = num(60, 2) == 0 || num(58, 2) == 64;
        if (num(52, 2) != 64 || !segmentRows || !sectionRows) {
            return 5;
        }
        fixed.add(new Room(BigInteger.ZERO, BigInteger.valueOf(64)));
        return addTable(32, 56, 56) && addTable(40, 60, 64) ? 0 : 6;
    }

    private boolean addTable(int whereAt, int countAt, int row) {
        long count = num(countAt, 2);
        if (count == 0) {
            return true;
        }
        Room table = new Room(big(whereAt, 8), BigInteger.valueOf(count * row));
        boolean free = true;
        for (Room other : fixed) {
            free = free && !table.overlaps(other);
        }
        fixed.add(table);
        return free && inFile(table) && table.place.mod(BigInteger.valueOf(8)).signum() == 0;
    }

    private void readRows() {
        for (int k = 0; k < num(56, 2); k++) {
            int at = big(32, 8).intValueExact() + 56 * k;
            Segment s = new Segment();
            s.kind = num(at, 4);
            s.flags = num(at + 4, 4);
            s.place = big(at + 8, 8);
            s.address = big(at + 16, 8);
            s.inFile = big(at + 32, 8);
            s.inMemory = big(at + 40, 8);
            s.alignment = big(at + 48, 8);
            segments.add(s);
        }
        for (int k = 0; k < num(60, 2); k++) {
            int at = big(40, 8).intValueExact() + 64 * k;
            Section s = new Section();
            s.name = num(at, 4);
            s.kind = num(at + 4, 4);
            s.flags = big(at + 8, 8);
            s.address = big(at + 16, 8);
            s.place = big(at + 24, 8);
            s.length = big(at + 32, 8);
            s.link = num(at + 40, 4);
            s.info = num(at + 44, 4);
            s.alignment = big(at + 48, 8);
            s.entry = big(at + 56, 8);
            sections.add(s);
        }
    }

    private int firstOfRows() {
        for (int r = 7; r <= 13; r++) {
            broken = breaker(r);
            if (broken >= 0) {
                return r;
            }
        }
        return 0;
    }

    private int breaker(int r) {
        switch (r) {
            case 7: return rule7();
            case 8: return rule8();
            case 9: return rule9();
            case 10: return rule10();
            case 11: return rule11();
            case 12: return rule12();
            default: return rule13();
        }
    }

    private static boolean aligned(BigInteger alignment) {
        return alignment.bitCount() <= 1;
    }

    private int rule7() {
        for (int k = 0; k < segments.size(); k++) {
            Segment s = segments.get(k);
            boolean good = aligned(s.alignment)
                && inFile(new Room(s.place, s.inFile))
                && s.inMemory.compareTo(s.inFile) >= 0
                && s.address.add(s.inMemory).compareTo(TOP) <= 0;
            if (good && s.alignment.compareTo(BigInteger.ONE) > 0) {
                good = s.address.mod(s.alignment).equals(s.place.mod(s.alignment));
            }
            if (!good) {
                return k;
            }
        }
        return -1;
    }

    private int rule8() {
        BigInteger end = BigInteger.ZERO;
        for (int k = 0; k < segments.size(); k++) {
            Segment s = segments.get(k);
            if (s.kind == 1) {
                if (s.address.compareTo(end) < 0) {
                    return k;
                }
                end = s.address.add(s.inMemory);
            }
        }
        return -1;
    }

    private int rule9() {
        for (int k = 0; k < sections.size(); k++) {
            Section s = sections.get(k);
            boolean good = s.kind <= 11 && aligned(s.alignment) && inFile(s.room());
            if (good && s.alignment.signum() != 0) {
                good = s.address.mod(s.alignment).signum() == 0;
            }
            if (k == 0) {
                good = big(big(40, 8).intValueExact(), 64).signum() == 0;
            }
            if (!good) {
                return k;
            }
        }
        return -1;
    }

    private int rule10() {
        List<Room> taken = new ArrayList<>(fixed);
        for (int k = 0; k < sections.size(); k++) {
            Room room = sections.get(k).room();
            for (Room other : taken) {
                if (room.overlaps(other)) {
                    return k;
                }
            }
            taken.add(room);
        }
        return -1;
    }

    private boolean texts(long k) {
        return k < sections.size() && sections.get((int) k).kind == 3;
    }

    private int rule11() {
        if (sections.isEmpty()) {
            return -1;
        }
        if (!texts(num(62, 2))) {
            return 0;
        }
        for (int k = 0; k < sections.size(); k++) {
            if (texts(k)) {
                int length = sections.get(k).length.intValueExact();
                int place = sections.get(k).place.intValueExact();
                if (length == 0 || file[place] != 0 || file[place + length - 1] != 0) {
                    return k;
                }
            }
        }
        for (int k = 0; k < sections.size(); k++) {
            if (sections.get(k).name >= names().length.longValueExact()) {
                return k;
            }
        }
        return -1;
    }

    private Section names() {
        return sections.get((int) num(62, 2));
    }

    private int rule12() {
        for (int k = 0; k < sections.size(); k++) {
            Section s = sections.get(k);
            if (s.kind == 2) {
                boolean good = s.entry.equals(BigInteger.valueOf(24))
                    && s.length.mod(s.entry).signum() == 0
                    && texts(s.link) && s.info <= s.count();
                if (!good) {
                    return k;
                }
            }
        }
        return -1;
    }

    private int rule13() {
        for (int k = 0; k < sections.size(); k++) {
            Section s = sections.get(k);
            for (int i = 0; i < s.count(); i++) {
                int at = s.place.intValueExact() + 24 * i;
                long section = num(at + 6, 2);
                boolean local = num(at + 4, 1) < 16;
                boolean good = num(at, 4) < sections.get((int) s.link).length.longValueExact()
                    && (section < sections.size() || section == 65521 || section == 65522)
                    && local == (i < s.info)
                    && (i > 0 || big(at, 24).signum() == 0);
                if (!good) {
                    return k;
                }
            }
        }
        return -1;
    }

    private boolean entryRuns() {
        for (Segment s : segments) {
            if (s.kind == 1 && s.flags % 2 == 1 && s.has(big(24, 8))) {
                return true;
            }
        }
        return false;
    }

    private static String told(BigInteger value) {
        return Long.toString(value.longValue());
    }

    String many(int what) {
        if (what != 0 && what != 1) {
            return NO_ARGUMENT;
        }
        return rule != 0 ? NO_STATE : Integer.toString(what == 0 ? segments.size() : sections.size());
    }

    String segment(int k, int what) {
        if (what < 0 || what > 6) {
            return NO_ARGUMENT;
        }
        if (rule != 0) {
            return NO_STATE;
        }
        if (k < 0 || k >= segments.size()) {
            return NO_ELEMENT;
        }
        Segment s = segments.get(k);
        BigInteger[] parts = {BigInteger.valueOf(s.kind), BigInteger.valueOf(s.flags), s.place, s.address,
            s.inFile, s.inMemory, s.alignment};
        return told(parts[what]);
    }

    String section(int k, int what) {
        if (what < 0 || what > 6) {
            return NO_ARGUMENT;
        }
        if (rule != 0) {
            return NO_STATE;
        }
        if (k < 0 || k >= sections.size()) {
            return NO_ELEMENT;
        }
        Section s = sections.get(k);
        BigInteger[] parts = {BigInteger.valueOf(s.kind), s.flags, s.place, s.length, BigInteger.valueOf(s.link),
            BigInteger.valueOf(s.info), BigInteger.valueOf(name(names(), s.name).length())};
        return told(parts[what]);
    }

    private String name(Section texts, long from) {
        StringBuilder name = new StringBuilder();
        int place = texts.place.intValueExact() + (int) from;
        while (file[place] != 0) {
            name.append((char) (file[place] & 255));
            place++;
        }
        return name.toString();
    }

    String letter(int k, int i) {
        if (rule != 0) {
            return NO_STATE;
        }
        if (k < 0 || k >= sections.size()) {
            return NO_ELEMENT;
        }
        String name = name(names(), sections.get(k).name);
        return i < 0 || i >= name.length() ? NO_ELEMENT : Integer.toString(name.charAt(i));
    }

    String symbols(int k) {
        if (rule != 0) {
            return NO_STATE;
        }
        return k < 0 || k >= sections.size() ? NO_ELEMENT : Integer.toString(sections.get(k).count());
    }

    String symbol(int k, int i, int what) {
        if (what < 0 || what > 4) {
            return NO_ARGUMENT;
        }
        if (rule != 0) {
            return NO_STATE;
        }
        if (k < 0 || k >= sections.size() || i < 0 || i >= sections.get(k).count()) {
            return NO_ELEMENT;
        }
        Section s = sections.get(k);
        int at = s.place.intValueExact() + 24 * i;
        int nameLength = name(sections.get((int) s.link), num(at, 4)).length();
        BigInteger[] parts = {big(at + 8, 8), big(at + 16, 8), big(at + 6, 2), big(at + 4, 1).shiftRight(4),
            BigInteger.valueOf(nameLength)};
        return told(parts[what]);
    }

    String find(long address) {
        if (rule != 0) {
            return NO_STATE;
        }
        BigInteger a = new BigInteger(Long.toUnsignedString(address));
        for (int k = 0; k < segments.size(); k++) {
            if (segments.get(k).kind == 1 && segments.get(k).has(a)) {
                return Integer.toString(k);
            }
        }
        return "-1";
    }
}
