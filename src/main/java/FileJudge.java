import java.util.NoSuchElementException;

/** Judges a row of bytes by fourteen rules, and answers questions about a row that keeps them all. */
public final class FileJudge {
    private static final int GOOD = 0;
    private static final int NONE = -1;

    private static final int MOST_BYTES = 640;
    private static final int HEAD_LENGTH = 64;
    private static final int SEGMENT_ROW = 56;
    private static final int SECTION_ROW = 64;
    private static final int SYMBOL_ROW = 24;

    private static final int HEAD_KIND = 16;
    private static final int HEAD_MACHINE = 18;
    private static final int HEAD_VERSION = 20;
    private static final int HEAD_ENTRY = 24;
    private static final int HEAD_SEGMENT_TABLE = 32;
    private static final int HEAD_SECTION_TABLE = 40;
    private static final int HEAD_OWN_LENGTH = 52;
    private static final int HEAD_SEGMENT_ROW = 54;
    private static final int HEAD_SEGMENTS = 56;
    private static final int HEAD_SECTION_ROW = 58;
    private static final int HEAD_SECTIONS = 60;
    private static final int HEAD_NAMES = 62;

    private static final int SEGMENT_KIND = 0;
    private static final int SEGMENT_FLAGS = 4;
    private static final int SEGMENT_PLACE = 8;
    private static final int SEGMENT_ADDRESS = 16;
    private static final int SEGMENT_FILE_LENGTH = 32;
    private static final int SEGMENT_MEMORY_LENGTH = 40;
    private static final int SEGMENT_ALIGNMENT = 48;

    private static final int SECTION_NAME = 0;
    private static final int SECTION_KIND = 4;
    private static final int SECTION_FLAGS = 8;
    private static final int SECTION_ADDRESS = 16;
    private static final int SECTION_PLACE = 24;
    private static final int SECTION_LENGTH = 32;
    private static final int SECTION_LINK = 40;
    private static final int SECTION_INFO = 44;
    private static final int SECTION_ALIGNMENT = 48;
    private static final int SECTION_ENTRY = 56;

    private static final int SYMBOL_NAME = 0;
    private static final int SYMBOL_INFO = 4;
    private static final int SYMBOL_SECTION = 6;
    private static final int SYMBOL_VALUE = 8;
    private static final int SYMBOL_SIZE = 16;

    private static final int KIND_PROGRAM = 2;
    private static final int KIND_LOADED = 1;
    private static final int KIND_NONE = 0;
    private static final int KIND_SYMBOLS = 2;
    private static final int KIND_TEXTS = 3;
    private static final int KIND_EMPTY = 8;

    private final Row row;
    private final Layout layout;
    private final Rules rules;
    private boolean judged;
    private int rule;

    public FileJudge() {
        row = new Row();
        layout = new Layout(row);
        rules = new Rules(row, layout);
        judged = false;
        rule = GOOD;
    }

    public int feed(long bytes, int n) throws IllegalArgumentException, IllegalStateException {
        if (n < 1 || n > 8) {
            throw new IllegalArgumentException("n is not 1 to 8");
        }
        if (n > MOST_BYTES - row.size) {
            throw new IllegalStateException("there would be more than 640 bytes");
        }
        for (int i = n - 1; i >= 0; i--) {
            row.add((byte) (bytes >>> (8 * i)));
        }
        judged = false;
        return row.size;
    }

    public void spoil(int k, int bits) throws IllegalArgumentException {
        if (k < 0 || k >= row.size) {
            throw new IllegalArgumentException("there is no such byte");
        }
        row.turnOver(k, bits);
        judged = false;
    }

    public void clear() {
        row.empty();
        judged = false;
    }

    public int judge() {
        rule = rules.firstBroken();
        judged = true;
        return rule;
    }

    public int broken() throws IllegalStateException {
        if (!judged) {
            throw new IllegalStateException("it is not judged");
        }
        return rules.culprit;
    }

    public int many(int what) throws IllegalArgumentException, IllegalStateException {
        needWhat(what, 1);
        needGood();
        return what == 0 ? layout.segmentCount() : layout.sectionCount();
    }

    public long segment(int k, int what)
            throws IllegalArgumentException, IllegalStateException, NoSuchElementException {
        needWhat(what, 6);
        needGood();
        needNumber(k, layout.segmentCount());
        int start = layout.segmentStart(k);
        switch (what) {
            case 0: return row.number(start + SEGMENT_KIND, 4);
            case 1: return row.number(start + SEGMENT_FLAGS, 4);
            case 2: return row.number(start + SEGMENT_PLACE, 8);
            case 3: return row.number(start + SEGMENT_ADDRESS, 8);
            case 4: return row.number(start + SEGMENT_FILE_LENGTH, 8);
            case 5: return row.number(start + SEGMENT_MEMORY_LENGTH, 8);
            default: return row.number(start + SEGMENT_ALIGNMENT, 8);
        }
    }

    public long section(int k, int what)
            throws IllegalArgumentException, IllegalStateException, NoSuchElementException {
        needWhat(what, 6);
        needGood();
        needNumber(k, layout.sectionCount());
        int start = layout.sectionStart(k);
        switch (what) {
            case 0: return row.number(start + SECTION_KIND, 4);
            case 1: return row.number(start + SECTION_FLAGS, 8);
            case 2: return row.number(start + SECTION_PLACE, 8);
            case 3: return row.number(start + SECTION_LENGTH, 8);
            case 4: return row.number(start + SECTION_LINK, 4);
            case 5: return row.number(start + SECTION_INFO, 4);
            default: return row.textLength(layout.sectionNamePlace(start));
        }
    }

    public int letter(int k, int i) throws IllegalStateException, NoSuchElementException {
        needGood();
        needNumber(k, layout.sectionCount());
        int place = layout.sectionNamePlace(layout.sectionStart(k));
        needNumber(i, row.textLength(place));
        return (int) row.number(place + i, 1);
    }

    public int symbols(int k) throws IllegalStateException, NoSuchElementException {
        needGood();
        needNumber(k, layout.sectionCount());
        return layout.symbolCount(layout.sectionStart(k));
    }

    public long symbol(int k, int i, int what)
            throws IllegalArgumentException, IllegalStateException, NoSuchElementException {
        needWhat(what, 4);
        needGood();
        needNumber(k, layout.sectionCount());
        int sectionStart = layout.sectionStart(k);
        needNumber(i, layout.symbolCount(sectionStart));
        int start = layout.symbolStart(sectionStart, i);
        switch (what) {
            case 0: return row.number(start + SYMBOL_VALUE, 8);
            case 1: return row.number(start + SYMBOL_SIZE, 8);
            case 2: return row.number(start + SYMBOL_SECTION, 2);
            case 3: return layout.binding(start);
            default: return row.textLength(layout.symbolNamePlace(sectionStart, start));
        }
    }

    public int find(long address) throws IllegalStateException {
        needGood();
        int count = layout.segmentCount();
        for (int k = 0; k < count; k++) {
            int start = layout.segmentStart(k);
            if (layout.isLoaded(start) && layout.liesInMemory(address, start)) {
                return k;
            }
        }
        return NONE;
    }

    private static void needWhat(int what, int highest) {
        if (what < 0 || what > highest) {
            throw new IllegalArgumentException("no such what");
        }
    }

    private void needGood() {
        if (!judged || rule != GOOD) {
            throw new IllegalStateException("it is not judged, or not good");
        }
    }

    private static void needNumber(int k, int count) {
        if (k < 0 || k >= count) {
            throw new NoSuchElementException("there is none with this number");
        }
    }

    /** The bytes, and what can be read from them without knowing what they mean. */
    private static final class Row {
        private static final long HIGHEST_BIT = 1L << 63;

        private final byte[] bytes;
        private int size;

        Row() {
            bytes = new byte[MOST_BYTES];
            size = 0;
        }

        void add(byte value) {
            if (size < MOST_BYTES) {
                bytes[size] = value;
                size++;
            }
        }

        void turnOver(int k, int bits) {
            if (k >= 0 && k < size) {
                bytes[k] = (byte) (bytes[k] ^ bits);
            }
        }

        void empty() {
            size = 0;
        }

        /** A number of 1 to 8 bytes; 0 where the file has no such bytes, so that no place can do harm. */
        long number(int place, int length) {
            if (place < 0 || place > size || length > size - place) {
                return 0;
            }
            long value = 0;
            for (int i = length - 1; i >= 0; i--) {
                value = (value << 8) | (bytes[place + i] & 255);
            }
            return value;
        }

        boolean isZeros(int place, int length) {
            for (int i = 0; i < length; i++) {
                if (number(place + i, 1) != 0) {
                    return false;
                }
            }
            return true;
        }

        int textLength(int place) {
            int length = 0;
            while (length < MOST_BYTES && number(place + length, 1) != 0) {
                length++;
            }
            return length;
        }

        /** Takes the place from the size, as the sum of place and length could wrap. */
        boolean hasRoom(long place, long length) {
            return !isBelow(size, place) && !isBelow(size - place, length);
        }

        /** Without sign: when both highest bits are turned over, the order with sign is the one without. */
        static boolean isBelow(long a, long b) {
            return (a ^ HIGHEST_BIT) < (b ^ HIGHEST_BIT);
        }
    }

    /**
     * Where tables, rows and names are, as far as the rules before have been kept.
     * A row of a table is told by its start, the place of its first byte in the file.
     */
    private static final class Layout {
        private final Row row;

        Layout(Row row) {
            this.row = row;
        }

        int segmentCount() {
            return (int) row.number(HEAD_SEGMENTS, 2);
        }

        int sectionCount() {
            return (int) row.number(HEAD_SECTIONS, 2);
        }

        int segmentStart(int k) {
            return (int) row.number(HEAD_SEGMENT_TABLE, 8) + SEGMENT_ROW * k;
        }

        int sectionStart(int k) {
            return (int) row.number(HEAD_SECTION_TABLE, 8) + SECTION_ROW * k;
        }

        boolean isLoaded(int start) {
            return row.number(start + SEGMENT_KIND, 4) == KIND_LOADED;
        }

        boolean mayBeRun(int start) {
            return (row.number(start + SEGMENT_FLAGS, 4) & 1) == 1;
        }

        /** Looks at the distance from the segment's begin, as its end may be 2^64. */
        boolean liesInMemory(long address, int start) {
            long begin = row.number(start + SEGMENT_ADDRESS, 8);
            long length = row.number(start + SEGMENT_MEMORY_LENGTH, 8);
            return !Row.isBelow(address, begin) && Row.isBelow(address - begin, length);
        }

        long sectionKind(int start) {
            return row.number(start + SECTION_KIND, 4);
        }

        /** Takes a long, as a link is a number of 4 bytes without sign. */
        boolean isTexts(long k) {
            return k >= 0 && k < sectionCount() && sectionKind(sectionStart((int) k)) == KIND_TEXTS;
        }

        long roomPlace(int start) {
            return row.number(start + SECTION_PLACE, 8);
        }

        /** Not always the section's length: two kinds take no bytes of the file, whatever length they tell. */
        long roomLength(int start) {
            long kind = row.number(start + SECTION_KIND, 4);
            if (kind == KIND_NONE || kind == KIND_EMPTY) {
                return 0;
            }
            return row.number(start + SECTION_LENGTH, 8);
        }

        int namesStart() {
            return sectionStart((int) row.number(HEAD_NAMES, 2));
        }

        int linkStart(int start) {
            return sectionStart((int) row.number(start + SECTION_LINK, 4));
        }

        int sectionNamePlace(int start) {
            return (int) roomPlace(namesStart()) + (int) row.number(start + SECTION_NAME, 4);
        }

        int symbolCount(int start) {
            return sectionKind(start) == KIND_SYMBOLS ? (int) (roomLength(start) / SYMBOL_ROW) : 0;
        }

        int symbolStart(int sectionStart, int i) {
            return (int) roomPlace(sectionStart) + SYMBOL_ROW * i;
        }

        int symbolNamePlace(int sectionStart, int start) {
            return (int) roomPlace(linkStart(sectionStart)) + (int) row.number(start + SYMBOL_NAME, 4);
        }

        long binding(int start) {
            return row.number(start + SYMBOL_INFO, 1) / 16;
        }
    }

    /** The fourteen rules. The later ones trust what the earlier ones have looked at, so their order matters. */
    private static final class Rules {
        private static final int HIGHEST_SECTION_KIND = 11;
        private static final int SYMBOL_WITHOUT_SECTION = 65521;
        private static final int SYMBOL_IN_COMMON = 65522;

        private final Row row;
        private final Layout layout;
        private int culprit;

        Rules(Row row, Layout layout) {
            this.row = row;
            this.layout = layout;
            culprit = NONE;
        }

        int firstBroken() {
            culprit = NONE;
            int ofHead = firstBrokenOfHead();
            if (ofHead != GOOD) {
                return ofHead;
            }
            if (tells(badSegment())) {
                return 7;
            }
            if (tells(sinkingSegment())) {
                return 8;
            }
            if (tells(badSection())) {
                return 9;
            }
            if (tells(overlappingSection())) {
                return 10;
            }
            if (tells(badlyNamedSection())) {
                return 11;
            }
            if (tells(badSymbolsSection())) {
                return 12;
            }
            if (tells(sectionOfBadSymbol())) {
                return 13;
            }
            return entryIsGood() ? GOOD : 14;
        }

        private boolean tells(int k) {
            culprit = k;
            return k != NONE;
        }

        private int firstBrokenOfHead() {
            if (row.size < HEAD_LENGTH) {
                return 1;
            }
            if (!markBegins()) {
                return 2;
            }
            if (!markGoesOn()) {
                return 3;
            }
            if (!kindIsKnown()) {
                return 4;
            }
            if (!rowLengthsAreGood()) {
                return 5;
            }
            return tablesAreGood() ? GOOD : 6;
        }

        private boolean markBegins() {
            return row.number(0, 1) == 127 && row.number(1, 1) == 69
                && row.number(2, 1) == 76 && row.number(3, 1) == 70;
        }

        private boolean markGoesOn() {
            return row.number(4, 1) == 2 && row.number(5, 1) == 1
                && row.number(6, 1) == 1 && row.isZeros(7, 9);
        }

        private boolean kindIsKnown() {
            long kind = row.number(HEAD_KIND, 2);
            return kind >= 1 && kind <= 3
                && row.number(HEAD_MACHINE, 2) == 243 && row.number(HEAD_VERSION, 4) == 1;
        }

        private boolean rowLengthsAreGood() {
            return row.number(HEAD_OWN_LENGTH, 2) == HEAD_LENGTH
                && (layout.segmentCount() == 0 || row.number(HEAD_SEGMENT_ROW, 2) == SEGMENT_ROW)
                && (layout.sectionCount() == 0 || row.number(HEAD_SECTION_ROW, 2) == SECTION_ROW);
        }

        private boolean tablesAreGood() {
            long segments = row.number(HEAD_SEGMENT_TABLE, 8);
            long sections = row.number(HEAD_SECTION_TABLE, 8);
            int segmentsLength = SEGMENT_ROW * layout.segmentCount();
            int sectionsLength = SECTION_ROW * layout.sectionCount();
            return tableIsInFile(segments, segmentsLength)
                && tableIsInFile(sections, sectionsLength)
                && !overlap(0, HEAD_LENGTH, segments, segmentsLength)
                && !overlap(0, HEAD_LENGTH, sections, sectionsLength)
                && !overlap(segments, segmentsLength, sections, sectionsLength);
        }

        /** A table without rows may be told to be anywhere. */
        private boolean tableIsInFile(long place, int length) {
            return length == 0 || (place % 8 == 0 && row.hasRoom(place, length));
        }

        /** Rooms with bytes are known to be in the file here, so that no sum wraps. */
        private static boolean overlap(long place, long length, long otherPlace, long otherLength) {
            return length != 0 && otherLength != 0
                && place < otherPlace + otherLength && otherPlace < place + length;
        }

        private int badSegment() {
            int count = layout.segmentCount();
            for (int k = 0; k < count; k++) {
                if (!segmentIsGood(layout.segmentStart(k))) {
                    return k;
                }
            }
            return NONE;
        }

        private boolean segmentIsGood(int start) {
            long place = row.number(start + SEGMENT_PLACE, 8);
            long address = row.number(start + SEGMENT_ADDRESS, 8);
            long inFile = row.number(start + SEGMENT_FILE_LENGTH, 8);
            long inMemory = row.number(start + SEGMENT_MEMORY_LENGTH, 8);
            long alignment = row.number(start + SEGMENT_ALIGNMENT, 8);
            return isZeroOrPowerOfTwo(alignment)
                && row.hasRoom(place, inFile)
                && !Row.isBelow(inMemory, inFile)
                && endsInMemory(address, inMemory)
                && (alignment == 0 || isMultiple(address - place, alignment));
        }

        private static boolean isZeroOrPowerOfTwo(long value) {
            return (value & (value - 1)) == 0;
        }

        /** By a mask, as 2^63 is no positive long; that a difference wraps does not change its lower bits. */
        private static boolean isMultiple(long value, long powerOfTwo) {
            return (value & (powerOfTwo - 1)) == 0;
        }

        /** Whether address plus length is not above 2^64: 2^64 less an address above 0 is its negative. */
        private static boolean endsInMemory(long address, long length) {
            return address == 0 || !Row.isBelow(-address, length);
        }

        private int sinkingSegment() {
            int count = layout.segmentCount();
            int startBefore = NONE;
            for (int k = 0; k < count; k++) {
                int start = layout.segmentStart(k);
                if (layout.isLoaded(start)) {
                    if (startBefore != NONE && !beginsBehind(start, startBefore)) {
                        return k;
                    }
                    startBefore = start;
                }
            }
            return NONE;
        }

        /** Compares the distance of the begins with the length, as the end of the one before may be 2^64. */
        private boolean beginsBehind(int start, int startBefore) {
            long begin = row.number(start + SEGMENT_ADDRESS, 8);
            long beginBefore = row.number(startBefore + SEGMENT_ADDRESS, 8);
            long lengthBefore = row.number(startBefore + SEGMENT_MEMORY_LENGTH, 8);
            return !Row.isBelow(begin, beginBefore) && !Row.isBelow(begin - beginBefore, lengthBefore);
        }

        private int badSection() {
            int count = layout.sectionCount();
            for (int k = 0; k < count; k++) {
                int start = layout.sectionStart(k);
                if (!sectionIsGood(start) || (k == 0 && !row.isZeros(start, SECTION_ROW))) {
                    return k;
                }
            }
            return NONE;
        }

        private boolean sectionIsGood(int start) {
            long address = row.number(start + SECTION_ADDRESS, 8);
            long alignment = row.number(start + SECTION_ALIGNMENT, 8);
            return layout.sectionKind(start) <= HIGHEST_SECTION_KIND
                && isZeroOrPowerOfTwo(alignment)
                && row.hasRoom(layout.roomPlace(start), layout.roomLength(start))
                && (alignment == 0 || isMultiple(address, alignment));
        }

        private int overlappingSection() {
            int count = layout.sectionCount();
            for (int k = 0; k < count; k++) {
                int start = layout.sectionStart(k);
                long place = layout.roomPlace(start);
                long length = layout.roomLength(start);
                if (overlapsHeadOrTable(place, length) || overlapsSectionBelow(k, place, length)) {
                    return k;
                }
            }
            return NONE;
        }

        private boolean overlapsHeadOrTable(long place, long length) {
            int segmentsLength = SEGMENT_ROW * layout.segmentCount();
            int sectionsLength = SECTION_ROW * layout.sectionCount();
            return overlap(0, HEAD_LENGTH, place, length)
                || overlap(layout.segmentStart(0), segmentsLength, place, length)
                || overlap(layout.sectionStart(0), sectionsLength, place, length);
        }

        private boolean overlapsSectionBelow(int k, long place, long length) {
            for (int j = 0; j < k; j++) {
                int start = layout.sectionStart(j);
                if (overlap(layout.roomPlace(start), layout.roomLength(start), place, length)) {
                    return true;
                }
            }
            return false;
        }

        private int badlyNamedSection() {
            if (layout.sectionCount() == 0) {
                return NONE;
            }
            if (!layout.isTexts(row.number(HEAD_NAMES, 2))) {
                return 0;
            }
            int badTexts = badTextsSection();
            return badTexts != NONE ? badTexts : sectionWithoutName();
        }

        private int badTextsSection() {
            int count = layout.sectionCount();
            for (int k = 0; k < count; k++) {
                int start = layout.sectionStart(k);
                if (layout.isTexts(k) && !textsAreClosed(layout.roomPlace(start), layout.roomLength(start))) {
                    return k;
                }
            }
            return NONE;
        }

        private boolean textsAreClosed(long place, long length) {
            return length > 0
                && row.number((int) place, 1) == 0
                && row.number((int) (place + length - 1), 1) == 0;
        }

        private int sectionWithoutName() {
            int count = layout.sectionCount();
            long namesLength = layout.roomLength(layout.namesStart());
            for (int k = 0; k < count; k++) {
                if (row.number(layout.sectionStart(k) + SECTION_NAME, 4) >= namesLength) {
                    return k;
                }
            }
            return NONE;
        }

        private int badSymbolsSection() {
            int count = layout.sectionCount();
            for (int k = 0; k < count; k++) {
                int start = layout.sectionStart(k);
                if (layout.sectionKind(start) == KIND_SYMBOLS && !symbolsSectionIsGood(start)) {
                    return k;
                }
            }
            return NONE;
        }

        private boolean symbolsSectionIsGood(int start) {
            return row.number(start + SECTION_ENTRY, 8) == SYMBOL_ROW
                && layout.roomLength(start) % SYMBOL_ROW == 0
                && layout.isTexts(row.number(start + SECTION_LINK, 4))
                && row.number(start + SECTION_INFO, 4) <= layout.symbolCount(start);
        }

        private int sectionOfBadSymbol() {
            int count = layout.sectionCount();
            for (int k = 0; k < count; k++) {
                int start = layout.sectionStart(k);
                if (layout.sectionKind(start) == KIND_SYMBOLS && !symbolsAreGood(start)) {
                    return k;
                }
            }
            return NONE;
        }

        private boolean symbolsAreGood(int sectionStart) {
            int count = layout.symbolCount(sectionStart);
            long textsLength = layout.roomLength(layout.linkStart(sectionStart));
            long locals = row.number(sectionStart + SECTION_INFO, 4);
            for (int i = 0; i < count; i++) {
                int start = layout.symbolStart(sectionStart, i);
                boolean isLocal = layout.binding(start) == 0;
                if (isLocal != (i < locals) || !symbolIsGood(start, textsLength)) {
                    return false;
                }
            }
            return count == 0 || row.isZeros(layout.symbolStart(sectionStart, 0), SYMBOL_ROW);
        }

        private boolean symbolIsGood(int start, long textsLength) {
            long section = row.number(start + SYMBOL_SECTION, 2);
            boolean sectionIsKnown = section < layout.sectionCount()
                || section == SYMBOL_WITHOUT_SECTION || section == SYMBOL_IN_COMMON;
            return sectionIsKnown && row.number(start + SYMBOL_NAME, 4) < textsLength;
        }

        private boolean entryIsGood() {
            if (row.number(HEAD_KIND, 2) != KIND_PROGRAM) {
                return true;
            }
            long entry = row.number(HEAD_ENTRY, 8);
            int count = layout.segmentCount();
            for (int k = 0; k < count; k++) {
                int start = layout.segmentStart(k);
                if (layout.isLoaded(start) && layout.mayBeRun(start) && layout.liesInMemory(entry, start)) {
                    return true;
                }
            }
            return false;
        }
    }
}
