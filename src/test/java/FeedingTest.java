/** Promises 1 to 4: a new object, feed, spoil, clear. */
public final class FeedingTest {
    public static void main(String[] args) {
        newObjectIsEmptyAndNotJudged();
        feedAnswersSize();
        feedTakesLowestBytesHighestFirst();
        feedRefusesWrongCounts();
        feedRefusesMoreThanRoom();
        refusedFeedChangesNothing();
        spoilTurnsBitsOver();
        spoilRefusesMissingBytes();
        clearEmpties();
        changesTakeJudgementBack();
        objectsAreApart();
        Expect.end();
    }

    private static void newObjectIsEmptyAndNotJudged() {
        FileJudge x = new FileJudge();
        notJudged("new", x);
        Expect.noArgument("new: no byte to spoil", () -> spoil(x, 0, 1));
        Expect.answer("new: judged it is too short", 1, x::judge);
        Expect.answer("new: first byte makes size 1", 1, () -> x.feed(127, 1));
    }

    private static void notJudged(String when, FileJudge x) {
        Expect.noState(when + ": broken", x::broken);
        Expect.noState(when + ": many", () -> x.many(0));
        Expect.noState(when + ": segment", () -> x.segment(0, 0));
        Expect.noState(when + ": section", () -> x.section(0, 0));
        Expect.noState(when + ": letter", () -> x.letter(0, 0));
        Expect.noState(when + ": symbols", () -> x.symbols(0));
        Expect.noState(when + ": symbol", () -> x.symbol(0, 0, 0));
        Expect.noState(when + ": find", () -> x.find(0));
    }

    private static void feedAnswersSize() {
        FileJudge x = new FileJudge();
        int size = 0;
        for (int n = 1; n <= 8; n++) {
            size += n;
            int count = n;
            Expect.answer("feed of " + n, size, () -> x.feed(-1, count));
        }
    }

    private static void feedTakesLowestBytesHighestFirst() {
        FileJudge x = new FileJudge();
        byte[] good = Sample.head().bytes;
        x.feed(0xAAAAAAAAAAAA7F45L, 2);
        x.feed(0xAAAAAAAAAA4C4602L, 3);
        x.feed(0xAAAAAAAA01010000L, 4);
        x.feed(0xAAAAAA0000000000L, 5);
        x.feed(0xAAAA000001000000L | 0xF3L << 8, 6);
        for (int i = 20; i < 64; i++) {
            x.feed(0x5500L | good[i], 1);
        }
        Expect.answer("a head fed in pieces is good", 0, x::judge);
    }

    private static void feedRefusesWrongCounts() {
        FileJudge x = new FileJudge();
        for (int n : new int[] {0, 9, -1, 16, Integer.MIN_VALUE, Integer.MAX_VALUE}) {
            Expect.noArgument("feed with n " + n, () -> x.feed(1, n));
        }
        Expect.answer("size after refusals", 1, () -> x.feed(1, 1));
    }

    private static void feedRefusesMoreThanRoom() {
        FileJudge x = new FileJudge();
        for (int i = 0; i < 79; i++) {
            x.feed(0, 8);
        }
        x.feed(0, 1);
        Expect.noState("633 and 8", () -> x.feed(0, 8));
        Expect.answer("633 and 7", 640, () -> x.feed(0, 7));
        Expect.noState("640 and 1", () -> x.feed(0, 1));
        Expect.noState("640 and 8", () -> x.feed(0, 8));
        Expect.noArgument("640 and 9: the argument first", () -> x.feed(0, 9));
        Expect.noArgument("640 and 0: the argument first", () -> x.feed(0, 0));
        Expect.answer("the last byte is there", 0, () -> spoil(x, 639, 1));
        Expect.noArgument("byte 640 is not", () -> spoil(x, 640, 1));
    }

    private static void refusedFeedChangesNothing() {
        FileJudge x = Sample.head().size(640).judged();
        Expect.noState("a full file", () -> x.feed(0, 1));
        Expect.noArgument("n 9", () -> x.feed(0, 9));
        Expect.noArgument("byte 640", () -> spoil(x, 640, 1));
        Expect.answer("still judged", -1, x::broken);
        Expect.answer("still good", 0, () -> x.many(0));
    }

    private static void spoilTurnsBitsOver() {
        FileJudge x = Sample.head().fed();
        Expect.answer("all bits of byte 1", 0, () -> spoil(x, 1, 255));
        Expect.answer("spoilt", 2, x::judge);
        Expect.answer("back but bit 7", 0, () -> spoil(x, 1, 127));
        Expect.answer("spoilt still", 2, x::judge);
        Expect.answer("the lowest 8 bits count alone", 0, () -> spoil(x, 1, 0xFFFFFF80));
        Expect.answer("good again", 0, x::judge);
        Expect.answer("bits above the lowest 8 turn nothing", 0, () -> spoil(x, 1, 0x7FFFFF00));
        notJudged("spoilt by no bit", x);
        Expect.answer("nothing was turned", 0, x::judge);
        Expect.answer("a byte from 0 to 4", 0, () -> spoil(x, 16, 5));
        Expect.answer("kind 1 turned to 4", 4, x::judge);
    }

    private static void spoilRefusesMissingBytes() {
        FileJudge x = Sample.head().fed();
        for (int k : new int[] {-1, 64, 65, 640, Integer.MIN_VALUE, Integer.MAX_VALUE}) {
            Expect.noArgument("spoil of byte " + k, () -> spoil(x, k, 255));
        }
        Expect.answer("byte 63", 0, () -> spoil(x, 63, 255));
    }

    private static void clearEmpties() {
        FileJudge x = Sample.full().judged();
        x.clear();
        notJudged("cleared", x);
        Expect.noArgument("cleared: no byte", () -> spoil(x, 0, 1));
        Expect.answer("cleared: too short", 1, x::judge);
        Sample.feedTo(x, Sample.head().bytes);
        Expect.answer("fed anew", 0, x::judge);
        Expect.answer("nothing of the old file", 0, () -> x.many(1));
        x.clear();
        for (int i = 0; i < 8; i++) {
            x.feed(0, 8);
        }
        Expect.answer("zeros over an old head", 2, x::judge);
    }

    private static void changesTakeJudgementBack() {
        FileJudge x = Sample.head().judged();
        x.feed(0, 1);
        notJudged("fed", x);
        Expect.answer("good with a byte more", 0, x::judge);
        x.spoil(64, 1);
        notJudged("spoilt", x);
        Expect.answer("good with any byte there", 0, x::judge);
        x.spoil(0, 1);
        Expect.answer("not good", 2, x::judge);
        x.spoil(0, 1);
        notJudged("mended, but not judged", x);
    }

    private static void objectsAreApart() {
        FileJudge x = Sample.head().judged();
        FileJudge y = new FileJudge();
        y.feed(0, 8);
        y.judge();
        Expect.answer("the first stays good", 0, () -> x.many(0));
        Expect.answer("the second has its own size", 9, () -> y.feed(0, 1));
    }

    private static long spoil(FileJudge x, int k, int bits) {
        x.spoil(k, bits);
        return 0;
    }
}
