/** Rules 1 to 6: each sentence at the last value that it allows and at the first that it does not. */
public final class HeadEdgesTest extends Verdict {
    private static final int SIZE = 640;

    public static void main(String[] args) {
        rule1();
        rule2();
        rule3();
        rule4();
        rule5();
        rule5WithRows();
        rule6Multiple();
        rule6InTheFile();
        rule6MostRows();
        rule6WithoutWrapping();
        rule6Overlap();
        rule6WithRows();
        flagsAreFree();
        Expect.end();
    }

    private static void rule1() {
        edge("1: 64 bytes or more", Sample.head(), Sample.head().size(63), 1, NONE);
        for (int size = 0; size < 63; size++) {
            bad("1: " + size + " bytes", Sample.head().size(size), 1);
        }
    }

    private static void rule2() {
        int[] due = {127, 69, 76, 70};
        for (int i = 0; i < due.length; i++) {
            edge("2: mark " + i + " from below", byteAt(i, due[i]), byteAt(i, due[i] - 1), 2, NONE);
            edge("2: mark " + i + " from above", byteAt(i, due[i]), byteAt(i, due[i] + 1), 2, NONE);
        }
    }

    private static void rule3() {
        int[] due = {2, 1, 1, 0, 0, 0, 0, 0, 0, 0, 0, 0};
        for (int i = 0; i < due.length; i++) {
            edge("3: mark " + (4 + i) + " from below", byteAt(4 + i, due[i]), byteAt(4 + i, due[i] - 1), 3, NONE);
            edge("3: mark " + (4 + i) + " from above", byteAt(4 + i, due[i]), byteAt(4 + i, due[i] + 1), 3, NONE);
        }
        edge("3: nine zeros and no tenth", byteAt(16, 3), byteAt(15, 3), 3, NONE);
    }

    private static Sample byteAt(int place, int value) {
        return Sample.head().put(place, 1, value);
    }

    private static Sample headWith(int part, long value) {
        return Sample.head().head(part, value);
    }

    private static void rule4() {
        edge("4: kind from 1", headWith(Sample.KIND, 1), headWith(Sample.KIND, 0), 4, NONE);
        edge("4: kind to 3", headWith(Sample.KIND, 3), headWith(Sample.KIND, 4), 4, NONE);
        good("4: kind 2", Sample.full().head(Sample.KIND, 2));
        edge("4: kind, higher byte", headWith(Sample.KIND, 1), headWith(Sample.KIND, 0x101), 4, NONE);
        edge("4: kind without sign", headWith(Sample.KIND, 1), headWith(Sample.KIND, 0x8001), 4, NONE);
        edge("4: machine from 243", headWith(Sample.MACHINE, 243), headWith(Sample.MACHINE, 242), 4, NONE);
        edge("4: machine to 243", headWith(Sample.MACHINE, 243), headWith(Sample.MACHINE, 244), 4, NONE);
        edge("4: machine, both bytes", headWith(Sample.MACHINE, 243), headWith(Sample.MACHINE, 0x1F3), 4, NONE);
        edge("4: version from 1", headWith(Sample.VERSION, 1), headWith(Sample.VERSION, 0), 4, NONE);
        edge("4: version to 1", headWith(Sample.VERSION, 1), headWith(Sample.VERSION, 2), 4, NONE);
        for (int bit = 8; bit < 32; bit += 8) {
            long more = 1 + (1L << bit);
            edge("4: version, bit " + bit, headWith(Sample.VERSION, 1), headWith(Sample.VERSION, more), 4, NONE);
        }
    }

    private static void rule5() {
        int[] parts = {Sample.HEAD_LENGTH, Sample.SEGMENT_LENGTH, Sample.SECTION_LENGTH};
        int[] due = {64, 56, 64};
        for (int i = 0; i < parts.length; i++) {
            for (int other : new int[] {due[i] - 1, due[i] + 1, due[i] + 256, 0, 65535}) {
                edge("5: length at " + parts[i], Sample.full().head(parts[i], due[i]),
                    Sample.full().head(parts[i], other), 5, NONE);
            }
        }
    }

    private static void rule5WithRows() {
        for (int length : new int[] {0, 55, 57, 65535}) {
            Sample none = Sample.tables(SIZE, 64, 0, 256, 2, 600).head(Sample.SEGMENT_LENGTH, length);
            Sample one = Sample.tables(SIZE, 64, 1, 256, 2, 600).head(Sample.SEGMENT_LENGTH, length);
            edge("5: with segments, rows of " + length, none, one, 5, NONE);
        }
        for (int length : new int[] {0, 63, 65, 65535}) {
            Sample none = Sample.tables(SIZE, 64, 1, 256, 0, 600).head(Sample.SECTION_LENGTH, length);
            Sample one = Sample.tables(SIZE, 64, 1, 256, 1, 600).head(Sample.SECTION_LENGTH, length);
            edge("5: with sections, rows of " + length, none, one, 5, NONE);
        }
    }

    private static void rule6Multiple() {
        for (int rest = 1; rest < 8; rest++) {
            edge("6: segments' place is a multiple of 8", Sample.tables(SIZE, 64, 2, 256, 2, 600),
                Sample.tables(SIZE, 64 + rest, 2, 256, 2, 600), 6, NONE);
            edge("6: sections' place is a multiple of 8", Sample.tables(SIZE, 64, 2, 256, 2, 600),
                Sample.tables(SIZE, 64, 2, 256 + rest, 2, 600), 6, NONE);
        }
        good("6: the next multiples", Sample.tables(SIZE, 72, 2, 264, 2, 600));
        good("6: multiples of 8 alone", Sample.tables(SIZE, 200, 1, 392, 2, 600));
    }

    private static void rule6InTheFile() {
        edge("6: segments end with the file", Sample.tables(120, 64, 1, 0, 0, 0),
            Sample.tables(120, 64, 1, 0, 0, 0).size(119), 6, NONE);
        edge("6: segments end with 640", Sample.tables(SIZE, 584, 1, 64, 2, 200),
            Sample.tables(SIZE, 64, 0, 64, 2, 200).head(Sample.SEGMENT_TABLE, 592).head(Sample.SEGMENTS, 1), 6, NONE);
        edge("6: sections end with the file", Sample.tables(256, 64, 1, 128, 2, 120),
            Sample.tables(256, 64, 1, 128, 2, 120).size(255), 6, NONE);
        edge("6: sections end with 640", Sample.tables(SIZE, 64, 1, 512, 2, 200),
            Sample.tables(SIZE, 64, 1, 520, 2, 200), 6, NONE);
    }

    private static void rule6MostRows() {
        edge("6: all of 10 segments", Sample.tables(SIZE, 64, 10, 0, 0, 0), Sample.tables(SIZE, 64, 11, 0, 0, 0),
            6, NONE);
        edge("6: all of 8 sections", Sample.tables(SIZE, 0, 0, 128, 8, 64), Sample.tables(SIZE, 0, 0, 128, 9, 64),
            6, NONE);
        verdict("6: 9 sections leave no byte for names", Sample.tables(SIZE, 0, 0, 64, 9, 0)
            .section(1, Sample.T_LENGTH, 0), 11, 1);
        bad("6: 10 sections", Sample.tables(SIZE, 0, 0, 64, 10, 0), 6);
    }

    /** Sums that would come out small if they wrapped at 2^64, and products that would at 2^16. */
    private static void rule6WithoutWrapping() {
        for (long place : new long[] {-56, -64, -8, -512, TOP, TOP + 64, 1L << 32, (1L << 32) + 64, 1L << 31}) {
            edge("6: segments' place and rows as they are, " + place, Sample.tables(SIZE, 64, 1, 256, 2, 600),
                Sample.tables(SIZE, 64, 1, 256, 2, 600).head(Sample.SEGMENT_TABLE, place), 6, NONE);
            edge("6: sections' place and rows as they are, " + place, Sample.tables(SIZE, 64, 1, 256, 2, 600),
                Sample.tables(SIZE, 64, 1, 256, 2, 600).head(Sample.SECTION_TABLE, place), 6, NONE);
        }
        for (int bit = 10; bit < 64; bit++) {
            bad("6: segments 2^" + bit + " further", Sample.tables(SIZE, 64, 1, 256, 2, 600)
                .head(Sample.SEGMENT_TABLE, 64 + (1L << bit)), 6);
            bad("6: sections 2^" + bit + " further", Sample.tables(SIZE, 64, 1, 256, 2, 600)
                .head(Sample.SECTION_TABLE, 256 + (1L << bit)), 6);
        }
        bad("6: two sections from 2^64 - 128 on", Sample.tables(SIZE, 64, 1, 256, 2, 600)
            .head(Sample.SECTION_TABLE, -128), 6);
        for (int count : new int[] {8192, 8193, 16384, 32768, 65535}) {
            bad("6: segments " + count, Sample.tables(SIZE, 64, 1, 256, 2, 600).head(Sample.SEGMENTS, count), 6);
        }
        for (int count : new int[] {1024, 1026, 2048, 32768, 65535}) {
            bad("6: sections " + count, Sample.tables(SIZE, 64, 1, 256, 2, 600).head(Sample.SECTIONS, count), 6);
        }
    }

    private static void rule6Overlap() {
        edge("6: segments behind the head", Sample.tables(SIZE, 64, 1, 256, 2, 600),
            Sample.tables(SIZE, 256, 1, 256, 2, 600).head(Sample.SEGMENT_TABLE, 56), 6, NONE);
        edge("6: sections behind the head", Sample.tables(SIZE, 256, 1, 64, 2, 600),
            Sample.tables(SIZE, 256, 1, 256, 2, 600).head(Sample.SECTION_TABLE, 56), 6, NONE);
        edge("6: sections behind the segments", Sample.tables(SIZE, 64, 1, 120, 2, 600),
            Sample.tables(SIZE, 64, 1, 112, 2, 600), 6, NONE);
        edge("6: segments behind the sections", Sample.tables(SIZE, 192, 1, 64, 2, 600),
            Sample.tables(SIZE, 184, 1, 64, 2, 600), 6, NONE);
        edge("6: one table within the other", Sample.tables(SIZE, 64, 1, 120, 2, 600),
            Sample.tables(SIZE, 64, 5, 128, 2, 600), 6, NONE);
        bad("6: segments on all of the head", Sample.tables(SIZE, 256, 1, 320, 2, 600)
            .head(Sample.SEGMENT_TABLE, 0), 6);
        bad("6: sections on all of the head", Sample.tables(SIZE, 64, 1, 256, 2, 600)
            .head(Sample.SECTION_TABLE, 0), 6);
    }

    private static void rule6WithRows() {
        for (long place : new long[] {0, 1, 56, 63, 257, 256, 639, 640, 641, -1, -8, TOP}) {
            Sample noSegments = Sample.tables(SIZE, 64, 0, 256, 2, 600).head(Sample.SEGMENT_TABLE, place);
            good("6: without segments any place, " + place, noSegments);
            bad("6: with one it is not free, " + place, noSegments.head(Sample.SEGMENTS, 1), 6);
        }
        for (long place : new long[] {0, 1, 56, 63, 257, 256, 639, 640, 641, -1, -8, TOP}) {
            Sample noSections = Sample.tables(SIZE, 256, 1, 64, 0, 600).head(Sample.SECTION_TABLE, place);
            good("6: without sections any place, " + place, noSections);
            bad("6: with one it is not free, " + place, noSections.head(Sample.SECTIONS, 1), 6);
        }
    }

    private static void flagsAreFree() {
        good("the head's flags", Sample.full().head(48, 0xFFFFFFFFL));
        good("an entry of kind 1", headWith(Sample.ENTRY, -1));
        good("an entry of kind 3", headWith(Sample.ENTRY, -1).head(Sample.KIND, 3));
    }
}
