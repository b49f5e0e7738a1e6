/** 'An object is used for at most 512 calls': the 512th is answered as well as the first, whichever it is. */
public final class CallsTest extends Verdict {
    private static final int MOST_CALLS = 512;

    public static void main(String[] args) {
        eachCallAsTheLast();
        feedAlone();
        spoilAlone();
        clearAlone();
        judgeAlone();
        refusedCallsAlone();
        filesOneBehindAnother();
        Expect.end();
    }

    /** Fed and judged, then asked in turn up to the 511th call. */
    private static FileJudge usedBut(Sample s, int left) {
        FileJudge x = s.judged();
        for (int calls = s.feeds() + 1; calls < MOST_CALLS - left; calls++) {
            if (calls % 2 == 0) {
                Expect.answer("call " + (calls + 1), 6, () -> x.many(1));
            } else {
                Expect.answer("call " + (calls + 1), 0, () -> x.find(0x1000));
            }
        }
        return x;
    }

    private static void eachCallAsTheLast() {
        Sample s = Sample.full().size(632);
        Expect.answer("512th: feed", 640, () -> usedBut(s, 1).feed(0, 8));
        Expect.noState("512th: feed too much", () -> usedBut(Sample.full().size(640), 1).feed(0, 1));
        Expect.noArgument("512th: spoil", () -> spoil(usedBut(s, 1), 632));
        Expect.answer("512th: judge", 0, () -> usedBut(s, 1).judge());
        Expect.answer("512th: broken", NONE, () -> usedBut(s, 1).broken());
        Expect.answer("512th: many", 1, () -> usedBut(s, 1).many(0));
        Expect.answer("512th: segment", 0x300, () -> usedBut(s, 1).segment(0, 5));
        Expect.answer("512th: section", -2, () -> usedBut(s, 1).section(4, 1));
        Expect.answer("512th: letter", 0xFF, () -> usedBut(s, 1).letter(4, 0));
        Expect.answer("512th: symbols", 3, () -> usedBut(s, 1).symbols(3));
        Expect.answer("512th: symbol", TOP, () -> usedBut(s, 1).symbol(3, 2, 0));
        Expect.answer("512th: find", NONE, () -> usedBut(s, 1).find(0x1300));
        FileJudge spoilt = usedBut(s, 2);
        spoilt.spoil(0, 1);
        Expect.answer("511th: spoil, 512th: judge", 2, spoilt::judge);
        FileJudge cleared = usedBut(s, 2);
        cleared.clear();
        Expect.answer("511th: clear, 512th: feed", 1, () -> cleared.feed(0, 1));
    }

    private static long spoil(FileJudge x, int k) {
        x.spoil(k, 1);
        return 0;
    }

    private static void feedAlone() {
        FileJudge x = new FileJudge();
        for (int calls = 1; calls <= MOST_CALLS; calls++) {
            int size = calls;
            Expect.answer("feed " + calls, size, () -> x.feed(0, 1));
        }
    }

    private static void spoilAlone() {
        FileJudge x = Sample.head().fed();
        int calls = 8;
        for (; calls < MOST_CALLS - 1; calls++) {
            Expect.answer("spoil", 0, () -> spoil(x, 0));
        }
        Expect.answer("turned over " + (calls - 8) + " times", calls % 2 == 0 ? 0 : 2, x::judge);
    }

    private static void clearAlone() {
        FileJudge x = new FileJudge();
        for (int calls = 1; calls < MOST_CALLS; calls++) {
            x.clear();
        }
        Expect.answer("behind 511 of clear", 8, () -> x.feed(0, 8));
    }

    private static void judgeAlone() {
        FileJudge x = sec(4, Sample.T_KIND, 12).fed();
        for (int calls = Sample.full().feeds(); calls + 2 <= MOST_CALLS; calls += 2) {
            Expect.answer("judge", 9, x::judge);
            Expect.answer("broken", 4, x::broken);
        }
    }

    private static void refusedCallsAlone() {
        FileJudge x = new FileJudge();
        for (int calls = 0; calls + 4 <= MOST_CALLS; calls += 4) {
            Expect.noArgument("feed", () -> x.feed(0, 9));
            Expect.noArgument("spoil", () -> spoil(x, 0));
            Expect.noState("broken", x::broken);
            Expect.noState("letter", () -> x.letter(0, 0));
        }
    }

    private static void filesOneBehindAnother() {
        FileJudge x = new FileJudge();
        int calls = 0;
        for (int i = 0; i < 3; i++) {
            Sample.feedTo(x, Sample.full().size(640).bytes);
            Expect.answer("good", 0, x::judge);
            Expect.answer("its sections", 6, () -> x.many(1));
            x.clear();
            Sample.feedTo(x, Sample.segments().head(Sample.SEGMENTS, 11).bytes);
            Expect.answer("not good", 6, x::judge);
            Expect.noState("no sections", () -> x.many(1));
            x.clear();
            calls += 80 + 40 + 6;
        }
        Sample.feedTo(x, Sample.segments().bytes);
        Expect.answer("the last file", 0, x::judge);
        Expect.answer("its segments", 4, () -> x.many(0));
        Expect.same("within 512 calls", "true", Boolean.toString(calls + 42 <= MOST_CALLS));
    }
}
