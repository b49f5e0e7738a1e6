/** Rules 9 to 11: each sentence at the last value that it allows and at the first that it does not. */
public final class SectionEdgesTest extends Verdict {
    private static final int SIZE = 640;

    public static void main(String[] args) {
        rule9Zeros();
        rule9Kind();
        rule9Alignment();
        rule9Room();
        rule9RoomsOfNoLength();
        rule9RoomWithoutWrapping();
        rule9Multiple();
        rule10HeadAndTables();
        rule10TablesWithoutRows();
        rule10OneAnother();
        rule10RoomsOfNoLength();
        rule11NamesSection();
        rule11Length();
        rule11FirstAndLast();
        rule11Names();
        withSections();
        Expect.end();
    }

    /** Segments at 128 to 184, sections (none, names, another) at 256 to 448; the names' 0 at 639. */
    private static Sample three() {
        return Sample.tables(SIZE, 128, 1, 256, 3, 639);
    }

    private static Sample with(int part, long value) {
        return three().section(2, part, value);
    }

    private static Sample room(int kind, long place, long length) {
        return with(Sample.T_KIND, kind).section(2, Sample.T_PLACE, place).section(2, Sample.T_LENGTH, length);
    }

    private static void rule9Zeros() {
        for (int i = 0; i < 64; i++) {
            for (int value : new int[] {1, 128, 255}) {
                edge("9: byte " + i + " of section 0", three(), three().put(256 + i, 1, value), 9, 0);
            }
        }
        edge("9: no byte behind section 0", three().put(320, 1, 0), three().put(319, 1, 1), 9, 0);
        good("9: no byte before section 0", three().put(255, 1, 1));
        good("9: section 1 is not 64 zeros", three().section(1, Sample.T_FLAGS, -1));
    }

    private static void rule9Kind() {
        for (int kind = 0; kind <= 11; kind++) {
            if (kind != 2 && kind != 3) {
                good("9: kind " + kind, with(Sample.T_KIND, kind));
            }
        }
        edge("9: kind to 11", with(Sample.T_KIND, 11), with(Sample.T_KIND, 12), 9, 2);
        for (int bit = 4; bit < 32; bit++) {
            edge("9: kind, bit " + bit, with(Sample.T_KIND, 1), with(Sample.T_KIND, 1 + (1L << bit)), 9, 2);
        }
        verdict("9: kind without sign", with(Sample.T_KIND, 0xFFFFFFFFL), 9, 2);
    }

    private static void rule9Alignment() {
        good("9: alignment 0", with(Sample.T_ALIGNMENT, 0));
        edge("9: alignment 1 and 3", with(Sample.T_ALIGNMENT, 1), with(Sample.T_ALIGNMENT, 3), 9, 2);
        for (int bit = 2; bit < 64; bit++) {
            long power = 1L << bit;
            edge("9: alignment 2^" + bit + " and less", with(Sample.T_ALIGNMENT, power),
                with(Sample.T_ALIGNMENT, power - 1), 9, 2);
            edge("9: alignment 2^" + bit + " and more", with(Sample.T_ALIGNMENT, power),
                with(Sample.T_ALIGNMENT, power + 1), 9, 2);
        }
        verdict("9: alignment of all bits", with(Sample.T_ALIGNMENT, -1), 9, 2);
    }

    private static void rule9Room() {
        Sample full = Sample.tables(SIZE, 128, 1, 256, 3, 120);
        full.section(2, Sample.T_KIND, 1).section(2, Sample.T_PLACE, 639);
        good("9: room of the last byte", full.section(2, Sample.T_LENGTH, 1));
        verdict("9: room of a byte more", full.section(2, Sample.T_LENGTH, 2), 9, 2);
        verdict("9: room of a byte behind", full.section(2, Sample.T_PLACE, 640).section(2, Sample.T_LENGTH, 1), 9, 2);
        good("9: room of no byte", full.section(2, Sample.T_LENGTH, 0));
        verdict("9: room of no byte behind", full.section(2, Sample.T_PLACE, 641), 9, 2);
        full.section(2, Sample.T_PLACE, 448).section(2, Sample.T_LENGTH, 52);
        edge("9: room to the end of a shorter file", full.size(500), Sample.tables(500, 128, 1, 256, 3, 120)
            .section(2, Sample.T_KIND, 1).section(2, Sample.T_PLACE, 448).section(2, Sample.T_LENGTH, 53), 9, 2);
        Sample names = Sample.tables(SIZE, 128, 1, 256, 3, 639);
        edge("9: room of names", names, Sample.tables(SIZE, 128, 1, 256, 3, 640), 9, 1);
    }

    private static void rule9RoomsOfNoLength() {
        for (int kind : new int[] {0, 8}) {
            for (long length : new long[] {0, 1, 641, TOP, -1}) {
                edge("9: no length with kind " + kind + ", told " + length, room(kind, 640, length),
                    room(kind, 641, length), 9, 2);
            }
            verdict("9: a place of 2^64 - 1 with kind " + kind, room(kind, -1, 1), 9, 2);
            verdict("9: a place of 2^63 with kind " + kind, room(kind, TOP, TOP), 9, 2);
        }
        for (int kind : new int[] {1, 2, 3, 4, 5, 6, 7, 9, 10, 11}) {
            verdict("9: a length with kind " + kind, room(kind, 640, 1), 9, 2);
        }
        for (int kind : new int[] {1, 4, 5, 6, 7, 9, 10, 11}) {
            good("9: none with kind " + kind, room(kind, 640, 0));
        }
    }

    private static void rule9RoomWithoutWrapping() {
        long[][] rooms = {{-1, 1}, {-8, 8}, {-1, 641}, {1, -1}, {640, -640}, {448, -448}, {TOP, TOP}, {TOP, 0},
            {448, TOP}, {448, -1}, {-1, 0}, {-1, -1}, {1L << 32, 0}, {448, 1L << 32}, {1L << 31, 0}, {448, 1L << 31},
            {(1L << 32) + 448, 8}, {448, (1L << 32) + 8}};
        for (long[] room : rooms) {
            verdict("9: place and length as they are, " + room[0] + " " + room[1], room(1, room[0], room[1]), 9, 2);
        }
        for (int bit = 10; bit < 64; bit++) {
            verdict("9: place with bit " + bit, room(1, 500 + (1L << bit), 8), 9, 2);
            verdict("9: length with bit " + bit, room(1, 500, 8 + (1L << bit)), 9, 2);
            verdict("9: place of no length with bit " + bit, room(8, 500 + (1L << bit), 8), 9, 2);
        }
    }

    private static void rule9Multiple() {
        good("9: any address with 0", with(Sample.T_ADDRESS, 7));
        Sample byOne = with(Sample.T_ADDRESS, 7).section(2, Sample.T_ALIGNMENT, 1);
        Sample byTwo = with(Sample.T_ADDRESS, 7).section(2, Sample.T_ALIGNMENT, 2);
        edge("9: any address with 1", byOne, byTwo, 9, 2);
        for (int bit = 1; bit < 64; bit++) {
            long power = 1L << bit;
            edge("9: a multiple of 2^" + bit, with(Sample.T_ALIGNMENT, power).section(2, Sample.T_ADDRESS, -power),
                with(Sample.T_ALIGNMENT, power).section(2, Sample.T_ADDRESS, -power + 1), 9, 2);
            edge("9: half of 2^" + bit, with(Sample.T_ALIGNMENT, power).section(2, Sample.T_ADDRESS, 0),
                with(Sample.T_ALIGNMENT, power).section(2, Sample.T_ADDRESS, power / 2 & Long.MAX_VALUE), 9, 2);
        }
        good("9: the place needs no alignment", room(1, 601, 5).section(2, Sample.T_ALIGNMENT, 4096));
    }

    private static void rule10HeadAndTables() {
        for (int kind : new int[] {1, 4, 11}) {
            edge("10: behind the head", room(kind, 64, 5), room(kind, 63, 5), 10, 2);
            edge("10: before the segments", room(kind, 100, 28), room(kind, 100, 29), 10, 2);
            edge("10: behind the segments", room(kind, 184, 5), room(kind, 183, 5), 10, 2);
            edge("10: before the sections", room(kind, 200, 56), room(kind, 200, 57), 10, 2);
            edge("10: behind the sections", room(kind, 448, 5), room(kind, 447, 5), 10, 2);
        }
        verdict("10: the head's first byte", room(1, 0, 1), 10, 2);
        verdict("10: within the segments", room(1, 150, 1), 10, 2);
        verdict("10: round the segments", room(1, 100, 100), 10, 2);
        verdict("10: within the sections", room(1, 300, 1), 10, 2);
        verdict("10: the last row of the sections", room(1, 384, 1), 10, 2);
        verdict("10: round all", room(1, 0, 600), 10, 2);
        edge("10: names behind the head", three().section(1, Sample.T_PLACE, 64),
            three().section(1, Sample.T_PLACE, 63), 10, 1);
    }

    /** A table without rows takes no byte, wherever the head says that it is. */
    private static void rule10TablesWithoutRows() {
        Sample s = room(1, 500, 20);
        for (long place : new long[] {0, 499, 500, 510, 520, 639, 640, -1, TOP}) {
            good("10: no segments at " + place, s.head(Sample.SEGMENTS, 0).head(Sample.SEGMENT_TABLE, place));
        }
        Sample one = room(1, 512, 8);
        edge("10: a segment at 456 or 464", one.head(Sample.SEGMENT_TABLE, 456),
            room(1, 512, 8).head(Sample.SEGMENT_TABLE, 464), 10, 2);
    }

    private static void rule10OneAnother() {
        Sample names = three().section(1, Sample.T_PLACE, 500).section(1, Sample.T_LENGTH, 10);
        names.section(2, Sample.T_KIND, 1);
        int[][] allowed = {{490, 10}, {510, 10}, {499, 1}, {510, 1}, {505, 0}, {500, 0}, {510, 0}};
        for (int[] room : allowed) {
            good("10: beside names, " + room[0], names.section(2, Sample.T_PLACE, room[0])
                .section(2, Sample.T_LENGTH, room[1]));
        }
        int[][] not = {{490, 11}, {509, 10}, {500, 1}, {509, 1}, {505, 1}, {500, 10}, {499, 12}, {501, 8}};
        for (int[] room : not) {
            verdict("10: on names, told of the later one, " + room[0], names.section(2, Sample.T_PLACE, room[0])
                .section(2, Sample.T_LENGTH, room[1]), 10, 2);
        }
        Sample empty = three().section(1, Sample.T_PLACE, 505).section(1, Sample.T_LENGTH, 0);
        empty.section(2, Sample.T_KIND, 1).section(2, Sample.T_PLACE, 500).section(2, Sample.T_LENGTH, 10);
        verdict("10: an empty room within another is no overlap", empty, 11, 1);
        verdict("10: a byte there is", empty.section(1, Sample.T_LENGTH, 1), 10, 2);
    }

    private static void rule10RoomsOfNoLength() {
        for (int kind : new int[] {0, 8}) {
            for (int place : new int[] {0, 63, 128, 183, 256, 447, 639}) {
                edge("10: no bytes of kind " + kind + " at " + place, room(kind, place, 1), room(1, place, 1), 10, 2);
                good("10: no bytes of kind " + kind + " at " + place + ", told as many", room(kind, place, -1));
            }
        }
    }

    private static void rule11NamesSection() {
        Sample s = room(3, 500, 1);
        good("11: names in 1", s);
        edge("11: names in the last section", room(3, 500, 1).head(Sample.NAMES, 2),
            room(3, 500, 1).head(Sample.NAMES, 3), 11, 0);
        for (int names : new int[] {0, 4, 0x101, 0x102, 0x8001, 65535}) {
            verdict("11: no names in " + names, s.head(Sample.NAMES, names), 11, 0);
        }
        for (int kind : new int[] {0, 1, 2, 4, 5, 6, 7, 8, 9, 10, 11}) {
            edge("11: names in one of kind " + kind, room(3, 500, 1).head(Sample.NAMES, 2),
                room(kind, 500, 1).head(Sample.NAMES, 2), 11, 0);
        }
    }

    private static void rule11Length() {
        edge("11: a length above 0", room(3, 500, 1), room(3, 500, 0), 11, 2);
        edge("11: of names too", three(), three().section(1, Sample.T_LENGTH, 0), 11, 1);
        good("11: of texts alone", room(4, 500, 0));
        edge("11: nor at the end of the file", room(4, 640, 0), room(3, 640, 0), 11, 2);
    }

    private static void rule11FirstAndLast() {
        for (int value : new int[] {1, 128, 255}) {
            edge("11: the only byte is 0", room(3, 500, 1), room(3, 500, 1).put(500, 1, value), 11, 2);
            edge("11: the first of two is 0", room(3, 500, 2), room(3, 500, 2).put(500, 1, value), 11, 2);
            edge("11: the last of two is 0", room(3, 500, 2), room(3, 500, 2).put(501, 1, value), 11, 2);
            edge("11: the second need not be", room(3, 500, 9).put(501, 7, -1),
                room(3, 500, 9).put(500, 1, value), 11, 2);
            edge("11: the last but one need not be", room(3, 500, 9).put(507, 1, value),
                room(3, 500, 9).put(508, 1, value), 11, 2);
            good("11: nor the bytes beside", room(3, 500, 9).put(499, 1, value).put(509, 1, value));
            edge("11: of texts alone", room(1, 500, 1).put(500, 1, value), room(3, 500, 1).put(500, 1, value), 11, 2);
            edge("11: of names too", three(), three().put(639, 1, value), 11, 1);
        }
    }

    private static void rule11Names() {
        for (int kind : new int[] {0, 1, 8, 11}) {
            edge("11: a name below a length of 1, kind " + kind, room(kind, 500, 0),
                room(kind, 500, 0).section(2, Sample.T_NAME, 1), 11, 2);
        }
        edge("11: a name below a length of 9", named(8), named(9), 11, 2);
        for (int bit = 4; bit < 32; bit++) {
            verdict("11: a name of 2^" + bit, named(1L << bit), 11, 2);
        }
        verdict("11: a name without sign", named(0xFFFFFFFFL), 11, 2);
        edge("11: the name of the names' section", named(0).section(1, Sample.T_NAME, 8),
            named(0).section(1, Sample.T_NAME, 9), 11, 1);
        Sample longer = room(3, 500, 20).section(2, Sample.T_NAME, 1);
        verdict("11: by the names' section, not by another", longer, 11, 2);
        good("11: by the names' section when it is that", longer.head(Sample.NAMES, 2));
    }

    /** Names of 9 bytes, the name of section 2 at a place in them. */
    private static Sample named(long name) {
        return three().section(1, Sample.T_PLACE, 600).section(1, Sample.T_LENGTH, 9).section(2, Sample.T_NAME, name);
    }

    private static void withSections() {
        edge("11: with sections", Sample.tables(SIZE, 128, 1, 256, 0, 0).head(Sample.NAMES, 7),
            Sample.tables(SIZE, 128, 1, 256, 1, 0).head(Sample.NAMES, 7), 11, 0);
        edge("9: with sections", Sample.tables(SIZE, 128, 1, 256, 0, 0).put(256, 1, 1),
            Sample.tables(SIZE, 128, 1, 256, 1, 0).put(256, 1, 1), 9, 0);
        verdict("11: section 0 alone holds no names", Sample.tables(SIZE, 128, 1, 256, 1, 0), 11, 0);
    }
}
