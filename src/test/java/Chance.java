import java.util.Arrays;
import java.util.Random;

/** Files made by chance: good ones of many shapes, and the same with a few parts written over. */
final class Chance {
    private static final int HEAD = 64;

    private final Random random;
    private byte[] file;
    private int size;
    private int segments;
    private int sections;
    private int segmentTable;
    private int sectionTable;
    private int[] kind;
    private int[] place;
    private int[] length;

    Chance(long seed) {
        random = new Random(seed);
    }

    byte[] next() {
        do {
            chooseShape();
        } while (!layOut());
        writeHead();
        writeSegments();
        writeSections();
        file = Arrays.copyOf(file, size);
        int changes = Math.max(0, random.nextInt(6) - 2);
        for (int i = 0; i < changes; i++) {
            change();
        }
        return file;
    }

    private int below(int bound) {
        return random.nextInt(bound);
    }

    private void chooseShape() {
        segments = below(4) == 0 ? 0 : below(5);
        sections = below(5) == 0 ? 0 : 2 + below(5);
        kind = new int[sections];
        place = new int[sections];
        length = new int[sections];
        int[] kinds = {2, 2, 2, 3, 3, 1, 8, 0, 11};
        for (int k = 1; k < sections; k++) {
            kind[k] = k == 1 ? 3 : kinds[below(kinds.length)];
            length[k] = kind[k] == 2 ? 24 * below(4) : kind[k] == 3 ? 1 + below(12) : below(16);
        }
    }

    /** Puts tables and rooms behind the head in an order by chance; false when they need more than 640 bytes. */
    private boolean layOut() {
        int pieces = sections + 2;
        int[] order = new int[pieces];
        for (int i = 0; i < pieces; i++) {
            int j = below(i + 1);
            order[i] = order[j];
            order[j] = i;
        }
        int at = HEAD;
        for (int piece : order) {
            at += below(3) == 0 ? below(5) : 0;
            if (piece >= 2) {
                int k = piece - 2;
                place[k] = k == 0 ? 0 : at;
                at += kind[k] == 0 || kind[k] == 8 ? 0 : length[k];
            } else {
                at = (at + 7) / 8 * 8;
                segmentTable = piece == 0 ? at : segmentTable;
                sectionTable = piece == 1 ? at : sectionTable;
                at += piece == 0 ? 56 * segments : 64 * sections;
            }
        }
        size = at + (below(3) == 0 ? below(9) : 0);
        return size <= 640;
    }

    private void put(int at, int bytes, long value) {
        for (int i = 0; i < bytes; i++) {
            if (at + i < file.length) {
                file[at + i] = (byte) (value >>> (8 * i));
            }
        }
    }

    private void writeHead() {
        file = new byte[640];
        put(0, 8, 0x10102464C457FL);
        put(16, 2, 1 + below(3));
        put(18, 2, 243);
        put(20, 4, 1);
        put(32, 8, segments == 0 && below(2) == 0 ? random.nextLong() : segmentTable);
        put(40, 8, sections == 0 && below(2) == 0 ? random.nextLong() : sectionTable);
        put(48, 4, random.nextInt());
        put(52, 2, HEAD);
        put(54, 2, segments == 0 ? below(70) : 56);
        put(56, 2, segments);
        put(58, 2, sections == 0 ? below(70) : 64);
        put(60, 2, sections);
        put(62, 2, 1);
    }

    private void writeSegments() {
        long address = below(3) * 0x100L + (below(4) == 0 ? Long.MIN_VALUE - 0x200 : 0);
        for (int k = 0; k < segments; k++) {
            int at = segmentTable + 56 * k;
            int from = below(size);
            int inFile = below(size - from + 1);
            long alignment = below(4) == 0 ? 0 : 1L << below(12);
            long step = alignment == 0 ? 1 : alignment;
            address += Math.floorMod(from - address, step) + step * below(3);
            long inMemory = inFile + below(200);
            if (k == segments - 1 && below(3) == 0) {
                inMemory = -address;
            }
            put(at, 4, below(4) == 0 ? below(9) : 1);
            put(at + 4, 4, below(3) == 0 ? random.nextInt() : 5);
            put(at + 8, 8, from);
            put(at + 16, 8, address);
            put(at + 24, 8, random.nextLong());
            put(at + 32, 8, inFile);
            put(at + 40, 8, inMemory);
            put(at + 48, 8, alignment);
            if (below(2) == 0) {
                put(24, 8, address + (inMemory > 0 ? below((int) Math.min(inMemory, 900)) : 0));
            }
            address += inMemory;
        }
    }

    private void writeSections() {
        for (int k = 1; k < sections; k++) {
            int at = sectionTable + 64 * k;
            long alignment = below(3) == 0 ? 0 : 1L << below(64);
            put(at, 4, below(length[1]));
            put(at + 4, 4, kind[k]);
            put(at + 8, 8, random.nextLong());
            put(at + 16, 8, alignment == 0 ? random.nextLong() : random.nextLong() & -alignment);
            put(at + 24, 8, place[k]);
            put(at + 32, 8, kind[k] == 8 || kind[k] == 0 ? random.nextLong() : length[k]);
            put(at + 40, 4, random.nextInt());
            put(at + 44, 4, random.nextInt());
            put(at + 48, 8, alignment);
            put(at + 56, 8, random.nextInt());
            if (kind[k] == 2) {
                writeSymbols(k, at);
            } else if (kind[k] != 8 && kind[k] != 0) {
                writeBytes(k);
            }
        }
    }

    private void writeBytes(int k) {
        boolean texts = kind[k] == 3;
        for (int i = 0; i < length[k]; i++) {
            boolean edge = texts && (i == 0 || i == length[k] - 1);
            put(place[k] + i, 1, edge || below(4) == 0 ? 0 : below(256));
        }
    }

    private void writeSymbols(int k, int at) {
        int link = 1 + below(sections - 1);
        while (kind[link] != 3) {
            link--;
        }
        int count = length[k] / 24;
        int locals = count == 0 ? 0 : 1 + below(count);
        put(at + 40, 4, link);
        put(at + 44, 4, locals);
        put(at + 56, 8, 24);
        for (int i = 1; i < count; i++) {
            int start = place[k] + 24 * i;
            put(start, 4, below(length[link]));
            put(start + 4, 1, below(16) + (i < locals ? 0 : 16 * (1 + below(15))));
            put(start + 5, 1, below(256));
            put(start + 6, 2, below(4) == 0 ? 65521 + below(2) : below(sections));
            put(start + 8, 8, random.nextLong());
            put(start + 16, 8, random.nextLong());
        }
    }

    private void change() {
        switch (below(8)) {
            case 0:
                if (file.length > 0) {
                    file[below(file.length)] ^= (byte) (1 << below(8));
                }
                break;
            case 1:
                if (below(8) == 0) {
                    file = Arrays.copyOf(file, below(641));
                }
                break;
            case 2:
                put(4 * below(16), below(2) == 0 ? 2 : 4, value());
                break;
            case 3:
            case 4:
                changeSegment();
                break;
            default:
                changeSection();
        }
    }

    private void changeSegment() {
        if (segments > 0) {
            int at = segmentTable + 56 * below(segments);
            int part = below(8);
            put(part == 0 ? at : part == 1 ? at + 4 : at + 8 * (part - 1), part < 2 ? 4 : 8, value());
        }
    }

    private void changeSection() {
        if (sections > 0) {
            int k = below(4) == 0 ? 0 : below(sections);
            int at = sectionTable + 64 * k;
            int[] parts = {0, 4, 8, 16, 24, 24, 32, 32, 40, 44, 48, 56};
            int part = parts[below(parts.length)];
            boolean four = part < 8 || part == 40 || part == 44;
            if (kind[k] == 2 && length[k] > 0 && below(2) == 0) {
                int start = place[k] + 24 * below(length[k] / 24);
                put(start + below(8), 1 + below(4), value());
            } else if (kind[k] == 3 && below(3) == 0) {
                put(place[k] + (below(2) == 0 ? 0 : length[k] - 1), 1, value());
            } else if (k > 0 || below(4) == 0) {
                put(at + part, four ? 4 : 8, value());
            }
        }
    }

    /** Numbers at which something may turn: small ones, places and sizes of this file, and the ends of the range. */
    private long value() {
        int near = below(3) - 1;
        switch (below(8)) {
            case 0: return below(13);
            case 1: return size + near;
            case 2: return sections > 0 ? place[below(sections)] + near : near;
            case 3: return sections > 0 ? length[below(sections)] + near : near;
            case 4: return (1L << below(64)) + near;
            case 5: return -below(700);
            case 6: return 8 * below(80);
            default: return random.nextLong();
        }
    }
}
