/** Promises 1 to 4 at their edges: how many bytes, which bytes, which bits, and that it is not judged any more. */
public final class FeedingEdgesTest extends Verdict {
    private static final int SIZE = 640;
    /** The flags of section 4 of the full sample: eight bytes that may be any, and can be asked for. */
    private static final int FREE = 216 + 64 * 4 + Sample.T_FLAGS;
    private static final long OLD = 0xF0E1D2C3B4A59687L;

    public static void main(String[] args) {
        newObject();
        feedTakesOneToEight();
        feedFillsToSixHundredAndForty();
        feedTakesTheLowestBytes();
        feedTakesTheHighestFirst();
        spoilTurnsEachBit();
        spoilTurnsTheLowestEightAlone();
        spoilFirstAndLastByte();
        spoilOfGrowingFiles();
        clearInEachState();
        notJudgedAnyMore();
        judgedBytesAreTheLastOnes();
        Expect.end();
    }

    private static void notJudged(String when, FileJudge x) {
        Expect.noState(when + ": broken", x::broken);
        nothingIsAnswered(when, x);
    }

    private static long spoil(FileJudge x, int k, int bits) {
        x.spoil(k, bits);
        return 0;
    }

    private static void newObject() {
        notJudged("1: new", new FileJudge());
        Expect.noArgument("1: new, no byte 0", () -> spoil(new FileJudge(), 0, 1));
        Expect.answer("1: new, judged", 1, () -> new FileJudge().judge());
        FileJudge x = new FileJudge();
        x.judge();
        Expect.answer("1: new, told", NONE, x::broken);
        for (int n = 1; n <= 8; n++) {
            int count = n;
            Expect.answer("1: new, the first bytes", n, () -> new FileJudge().feed(-1, count));
        }
    }

    private static void feedTakesOneToEight() {
        FileJudge x = new FileJudge();
        for (int n : new int[] {0, 9, -1, -8, 255, 256, 257, 264, Integer.MIN_VALUE, Integer.MIN_VALUE + 1,
            Integer.MAX_VALUE}) {
            Expect.noArgument("2: n " + n, () -> x.feed(1, n));
        }
        Expect.answer("2: n 1", 1, () -> x.feed(1, 1));
        Expect.answer("2: n 8", 9, () -> x.feed(1, 8));
        Expect.noArgument("2: n 0", () -> x.feed(1, 0));
        Expect.noArgument("2: n 9", () -> x.feed(1, 9));
        Expect.answer("2: n 7", 16, () -> x.feed(1, 7));
    }

    private static FileJudge filled(int size) {
        FileJudge x = new FileJudge();
        Sample.feedTo(x, new byte[size]);
        return x;
    }

    private static void feedFillsToSixHundredAndForty() {
        for (int n = 1; n <= 8; n++) {
            int count = n;
            FileJudge fits = filled(SIZE - n);
            Expect.answer("2: up to 640 by " + n, SIZE, () -> fits.feed(0, count));
            for (int m = 1; m <= 8; m++) {
                int more = m;
                Expect.noState("2: full, " + m + " more", () -> fits.feed(0, more));
            }
            FileJudge not = filled(SIZE - n + 1);
            Expect.noState("2: up to 641 by " + n, () -> not.feed(0, count));
            if (n > 1) {
                Expect.answer("2: up to 640 by one less", SIZE, () -> not.feed(0, count - 1));
            }
            Expect.noArgument("2: full, the last byte is 639", () -> spoil(not, SIZE, 1));
            Expect.answer("2: full, byte 639", 0, () -> spoil(not, SIZE - 1, 1));
        }
    }

    /** The full sample with the eight free bytes fed by calls of their own. */
    private static FileJudge withFree(int[] counts, long[] values) {
        FileJudge x = new FileJudge();
        byte[] file = Sample.full().bytes;
        byte[] before = new byte[FREE];
        System.arraycopy(file, 0, before, 0, FREE);
        Sample.feedTo(x, before);
        for (int i = 0; i < counts.length; i++) {
            x.feed(values[i], counts[i]);
        }
        byte[] behind = new byte[file.length - FREE - 8];
        System.arraycopy(file, FREE + 8, behind, 0, behind.length);
        Sample.feedTo(x, behind);
        x.judge();
        return x;
    }

    private static void feedTakesTheLowestBytes() {
        for (int n = 1; n < 8; n++) {
            FileJudge x = withFree(new int[] {n, 8 - n}, new long[] {0x1122334455667788L, 0xA1A2A3A4A5A6A7A8L});
            long first = reversed(0x1122334455667788L, n);
            long second = reversed(0xA1A2A3A4A5A6A7A8L, 8 - n);
            Expect.answer("2: the lowest " + n, first | second << 8 * n, () -> x.section(4, 1));
        }
    }

    /** The lowest n bytes of a value as a number of the file: the highest of them is its lowest byte. */
    private static long reversed(long value, int n) {
        return Long.reverseBytes(value << 8 * (8 - n));
    }

    private static void feedTakesTheHighestFirst() {
        FileJudge x = withFree(new int[] {8}, new long[] {0x0102030405060708L});
        Expect.answer("2: the highest first", 0x0807060504030201L, () -> x.section(4, 1));
        FileJudge y = withFree(new int[] {8}, new long[] {0xFF000000000000FEL});
        Expect.answer("2: bytes above 127", 0xFE000000000000FFL, () -> y.section(4, 1));
        FileJudge z = withFree(new int[] {1, 1, 1, 1, 1, 1, 1, 1}, new long[] {-1, 0x100, -128, 0x17F, -256, 1, 2, 3});
        Expect.answer("2: one by one", 0x030201007F8000FFL, () -> z.section(4, 1));
    }

    private static FileJudge withFlags(long value) {
        return Sample.full().section(4, Sample.T_FLAGS, value).judged();
    }

    private static void spoilTurnsEachBit() {
        for (int k = 0; k < 8; k++) {
            for (int bit = 0; bit < 8; bit++) {
                FileJudge x = withFlags(OLD);
                x.spoil(FREE + k, 1 << bit);
                notJudged("3: spoilt", x);
                x.judge();
                long due = OLD ^ 1L << 8 * k + bit;
                Expect.answer("3: bit " + bit + " of byte " + k, due, () -> x.section(4, 1));
                x.spoil(FREE + k, 1 << bit);
                x.judge();
                Expect.answer("3: and back", OLD, () -> x.section(4, 1));
            }
        }
    }

    private static void spoilTurnsTheLowestEightAlone() {
        int[] bits = {0, 255, 256, 0x1FF, 0xFFFFFF00, -1, Integer.MIN_VALUE, Integer.MAX_VALUE, 0x12345678, -128};
        int[] turned = {0, 255, 0, 255, 0, 255, 0, 255, 0x78, 128};
        for (int i = 0; i < bits.length; i++) {
            FileJudge x = withFlags(OLD);
            x.spoil(FREE + 3, bits[i]);
            notJudged("3: spoilt by " + bits[i], x);
            x.judge();
            long due = OLD ^ (long) turned[i] << 24;
            Expect.answer("3: bits " + bits[i], due, () -> x.section(4, 1));
        }
    }

    private static void spoilFirstAndLastByte() {
        FileJudge x = Sample.head().size(SIZE).judged();
        Expect.answer("3: byte 0", 0, () -> spoil(x, 0, 1));
        Expect.answer("3: byte 0 is another", 2, x::judge);
        Expect.answer("3: byte 0 back", 0, () -> spoil(x, 0, 1));
        Expect.answer("3: byte 639", 0, () -> spoil(x, 639, 1));
        Expect.answer("3: byte 639 is in no room", 0, x::judge);
        for (int k : new int[] {-1, 640, 641, 65536, Integer.MIN_VALUE, Integer.MAX_VALUE}) {
            Expect.noArgument("3: byte " + k, () -> spoil(x, k, 1));
            Expect.noArgument("3: byte " + k + " by no bit", () -> spoil(x, k, 0));
        }
    }

    private static void spoilOfGrowingFiles() {
        FileJudge x = new FileJudge();
        int size = 0;
        for (int n = 1; n <= 8; n++) {
            int first = size;
            int last = size + n - 1;
            Expect.noArgument("3: byte " + first + " before it is fed", () -> spoil(x, first, 1));
            x.feed(0, n);
            size += n;
            Expect.answer("3: byte " + last, 0, () -> spoil(x, last, 1));
            Expect.noArgument("3: byte " + (last + 1), () -> spoil(x, last + 1, 1));
            Expect.noArgument("3: byte -1", () -> spoil(x, -1, 1));
        }
    }

    private static void clearInEachState() {
        Sample[] files = {Sample.head().size(0), Sample.head().size(1), Sample.head(), Sample.full().size(640),
            Sample.head().size(640).put(0, 1, 0)};
        for (Sample file : files) {
            for (int judged = 0; judged < 2; judged++) {
                FileJudge x = judged == 1 ? file.judged() : file.fed();
                x.clear();
                cleared("4: " + file.bytes.length + " bytes", x);
            }
        }
        FileJudge twice = Sample.full().judged();
        twice.clear();
        twice.clear();
        cleared("4: twice", twice);
    }

    private static void cleared(String when, FileJudge x) {
        notJudged(when, x);
        Expect.noArgument(when + ": no byte 0", () -> spoil(x, 0, 1));
        Expect.answer(when + ": judged", 1, x::judge);
        Expect.answer(when + ": told", NONE, x::broken);
        Sample.feedTo(x, new byte[632]);
        Expect.answer(when + ": 640 bytes again", 640, () -> x.feed(0, 8));
        Expect.noState(when + ": but no more", () -> x.feed(0, 1));
        Expect.answer(when + ": nothing of the old file", 2, x::judge);
        x.clear();
        Sample.feedTo(x, Sample.full().bytes);
        Expect.answer(when + ": another file", 0, x::judge);
        Expect.answer(when + ": its sections", 6, () -> x.many(1));
    }

    private static void notJudgedAnyMore() {
        Sample[] files = {Sample.full(), Sample.full().head(Sample.ENTRY, 0), Sample.head().size(63)};
        int[] rules = {0, 14, 1};
        for (int i = 0; i < files.length; i++) {
            FileJudge fed = files[i].judged();
            fed.feed(0, 1);
            notJudged("2: fed", fed);
            FileJudge spoilt = files[i].judged();
            spoilt.spoil(48, 0);
            notJudged("3: spoilt by no bit", spoilt);
            Expect.answer("3: judged again", rules[i], spoilt::judge);
            FileJudge twice = files[i].judged();
            twice.spoil(48, 1);
            twice.spoil(48, 1);
            notJudged("3: the same bytes, but not judged", twice);
            Expect.answer("3: the same verdict", rules[i], twice::judge);
        }
    }

    /** A judgement is one of the bytes that stand there when it is made. */
    private static void judgedBytesAreTheLastOnes() {
        FileJudge x = new FileJudge();
        byte[] file = Sample.head().bytes;
        for (int i = 0; i < 64; i++) {
            Expect.answer("5: " + i + " bytes", 1, x::judge);
            Expect.answer("6: " + i + " bytes", NONE, x::broken);
            x.feed(file[i], 1);
            Expect.noState("6: a byte more", x::broken);
        }
        Expect.answer("5: 64 bytes", 0, x::judge);
        Expect.answer("5: once more", 0, x::judge);
        Expect.answer("6: good", NONE, x::broken);
    }
}
