import java.util.Arrays;

/** A file in the making: good samples, and a way to write another number over any part of them. */
final class Sample {
    static final int KIND = 16;
    static final int MACHINE = 18;
    static final int VERSION = 20;
    static final int ENTRY = 24;
    static final int SEGMENT_TABLE = 32;
    static final int SECTION_TABLE = 40;
    static final int HEAD_LENGTH = 52;
    static final int SEGMENT_LENGTH = 54;
    static final int SEGMENTS = 56;
    static final int SECTION_LENGTH = 58;
    static final int SECTIONS = 60;
    static final int NAMES = 62;

    static final int S_KIND = 0;
    static final int S_FLAGS = 4;
    static final int S_PLACE = 8;
    static final int S_ADDRESS = 16;
    static final int S_OTHER_ADDRESS = 24;
    static final int S_IN_FILE = 32;
    static final int S_IN_MEMORY = 40;
    static final int S_ALIGNMENT = 48;

    static final int T_NAME = 0;
    static final int T_KIND = 4;
    static final int T_FLAGS = 8;
    static final int T_ADDRESS = 16;
    static final int T_PLACE = 24;
    static final int T_LENGTH = 32;
    static final int T_LINK = 40;
    static final int T_INFO = 44;
    static final int T_ALIGNMENT = 48;
    static final int T_ENTRY = 56;

    static final int Y_NAME = 0;
    static final int Y_INFO = 4;
    static final int Y_OTHER = 5;
    static final int Y_SECTION = 6;
    static final int Y_VALUE = 8;
    static final int Y_SIZE = 16;

    static final int NAMES_PLACE = 120;
    static final int TEXTS_PLACE = 136;
    static final int SYMBOLS_PLACE = 144;
    static final int DATA_PLACE = 600;

    byte[] bytes;
    private int segmentTable = 64;
    private int sectionTable = 216;

    private Sample(int size) {
        bytes = new byte[size];
    }

    /** Only a head, of kind 1, without tables. */
    static Sample head() {
        Sample s = new Sample(64);
        s.put(0, 4, 0x464C457F).put(4, 1, 2).put(5, 1, 1).put(6, 1, 1);
        s.head(KIND, 1).head(MACHINE, 243).head(VERSION, 1).head(HEAD_LENGTH, 64);
        return s;
    }

    /** A head of kind 3, four rows of segments behind it (loaded, other, loaded, loaded), 32 bytes more. */
    static Sample segments() {
        Sample s = head().size(320).head(KIND, 3);
        s.head(SEGMENT_TABLE, 64).head(SEGMENT_LENGTH, 56).head(SEGMENTS, 4);
        s.segment(0, 1, 5, 0, 0x1000, 320, 0x200, 0x1000);
        s.segment(1, 6, 4, 64, 0x40, 224, 224, 8);
        s.segment(2, 1, 6, 288, 0x2120, 16, 0x100, 0x1000);
        s.segment(3, 1, 4, 304, -16, 8, 16, 0);
        return s;
    }

    /**
     * A head of kind 2, one segment, six sections: none, names, texts, symbols (three), bytes, empty.
     * Segment table at 64, section table at 216, size 616.
     */
    static Sample full() {
        Sample s = head().size(616).head(KIND, 2).head(ENTRY, 0x1040);
        s.head(SEGMENT_TABLE, 64).head(SEGMENT_LENGTH, 56).head(SEGMENTS, 1);
        s.head(SECTION_TABLE, 216).head(SECTION_LENGTH, 64).head(SECTIONS, 6).head(NAMES, 1);
        s.segment(0, 1, 5, 0, 0x1000, 616, 0x300, 0x1000);
        s.text(NAMES_PLACE + 1, ".na").text(NAMES_PLACE + 5, "xy").text(NAMES_PLACE + 8, "\u00FFdata");
        s.text(TEXTS_PLACE + 1, "main").text(TEXTS_PLACE + 6, "f");
        s.section(1, 1, 3, NAMES_PLACE, 16, 0, 0);
        s.section(2, 2, 3, TEXTS_PLACE, 8, 0, 0);
        s.section(3, 5, 2, SYMBOLS_PLACE, 72, 2, 2).section(3, T_ENTRY, 24).section(3, T_ALIGNMENT, 8);
        s.section(4, 8, 1, DATA_PLACE, 16, 7, 9).section(4, T_FLAGS, -2).section(4, T_ADDRESS, 0x2000);
        s.section(4, T_ALIGNMENT, 0x1000);
        s.section(5, 15, 8, 616, 0x500, 0xFFFFFFFFL, 0xFFFFFFFEL);
        s.symbol(1, 1, 0x0F, 4, 5, -1);
        s.symbol(2, 6, 0xF3, 65521, Long.MIN_VALUE, 77);
        return s;
    }

    /**
     * A file of kind 1 with tables where the caller wants them: segments of zeros, which are good,
     * and sections of zeros but for number 1, the names' section, a single 0 at a place of its own.
     * Where a table does not fit, only the head tells of it.
     */
    static Sample tables(int size, int segmentTable, int segments, int sectionTable, int sections, int names) {
        Sample s = head().size(size);
        s.segmentTable = segmentTable;
        s.sectionTable = sectionTable;
        s.head(SEGMENT_TABLE, segmentTable).head(SEGMENT_LENGTH, 56).head(SEGMENTS, segments);
        s.head(SECTION_TABLE, sectionTable).head(SECTION_LENGTH, 64).head(SECTIONS, sections);
        if (sections > 1 && sectionTable + 128 <= size) {
            s.head(NAMES, 1).section(1, 0, 3, names, 1, 0, 0);
        }
        return s;
    }

    Sample size(int size) {
        bytes = Arrays.copyOf(bytes, size);
        return this;
    }

    Sample put(int place, int length, long value) {
        for (int i = 0; i < length; i++) {
            bytes[place + i] = (byte) (value >>> (8 * i));
        }
        return this;
    }

    Sample text(int place, String text) {
        for (int i = 0; i < text.length(); i++) {
            put(place + i, 1, text.charAt(i));
        }
        return this;
    }

    Sample head(int part, long value) {
        boolean four = part == VERSION || part == 48;
        boolean eight = part == ENTRY || part == SEGMENT_TABLE || part == SECTION_TABLE;
        return put(part, eight ? 8 : four ? 4 : 2, value);
    }

    /** A number of 2 bytes of the head. */
    int count(int part) {
        return (bytes[part] & 255) + 256 * (bytes[part + 1] & 255);
    }

    Sample segment(int k, int part, long value) {
        return put(segmentTable + 56 * k + part, part < 8 ? 4 : 8, value);
    }

    private void segment(int k, long kind, long flags, long place, long address, long inFile, long... more) {
        segment(k, S_KIND, kind).segment(k, S_FLAGS, flags).segment(k, S_PLACE, place);
        segment(k, S_ADDRESS, address).segment(k, S_OTHER_ADDRESS, 99).segment(k, S_IN_FILE, inFile);
        segment(k, S_IN_MEMORY, more[0]).segment(k, S_ALIGNMENT, more[1]);
    }

    Sample section(int k, int part, long value) {
        boolean four = part < 8 || part == T_LINK || part == T_INFO;
        return put(sectionTable + 64 * k + part, four ? 4 : 8, value);
    }

    private Sample section(int k, long name, long kind, long place, long length, long link, long info) {
        section(k, T_NAME, name).section(k, T_KIND, kind).section(k, T_PLACE, place);
        return section(k, T_LENGTH, length).section(k, T_LINK, link).section(k, T_INFO, info);
    }

    Sample symbolPart(int i, int part, long value) {
        int length = part == Y_NAME ? 4 : part == Y_SECTION ? 2 : part < Y_VALUE ? 1 : 8;
        return put(SYMBOLS_PLACE + 24 * i + part, length, value);
    }

    private void symbol(int i, long name, long info, long section, long value, long size) {
        symbolPart(i, Y_NAME, name).symbolPart(i, Y_INFO, info).symbolPart(i, Y_OTHER, 3);
        symbolPart(i, Y_SECTION, section).symbolPart(i, Y_VALUE, value).symbolPart(i, Y_SIZE, size);
    }

    FileJudge fed() {
        FileJudge judge = new FileJudge();
        feedTo(judge, bytes);
        return judge;
    }

    static void feedTo(FileJudge judge, byte[] bytes) {
        for (int place = 0; place < bytes.length; place += 8) {
            int n = Math.min(8, bytes.length - place);
            long value = 0;
            for (int i = 0; i < n; i++) {
                value = (value << 8) | (bytes[place + i] & 255);
            }
            judge.feed(value, n);
        }
    }

    /** How often feedTo calls feed for this file. */
    int feeds() {
        return (bytes.length + 7) / 8;
    }

    FileJudge judged() {
        FileJudge judge = fed();
        judge.judge();
        return judge;
    }
}
