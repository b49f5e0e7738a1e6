/** What the tests of the rules share: a whole file judged, and what may be asked of it then. */
abstract class Verdict {
    static final int NONE = -1;
    static final long TOP = Long.MIN_VALUE;

    static void verdict(String what, Sample s, int rule, int broken) {
        FileJudge x = s.fed();
        Expect.noState(what + ": not judged", x::broken);
        Expect.answer(what + ": judge", rule, x::judge);
        Expect.answer(what + ": broken", broken, x::broken);
        if (rule == 0) {
            Expect.answer(what + ": segments", s.count(Sample.SEGMENTS), () -> x.many(0));
            Expect.answer(what + ": sections", s.count(Sample.SECTIONS), () -> x.many(1));
        } else {
            nothingIsAnswered(what, x);
        }
    }

    /** All questions but broken: of a file that is not judged, or not good. */
    static void nothingIsAnswered(String what, FileJudge x) {
        Expect.noState(what + ": many 0", () -> x.many(0));
        Expect.noState(what + ": many 1", () -> x.many(1));
        Expect.noState(what + ": segment", () -> x.segment(0, 0));
        Expect.noState(what + ": section", () -> x.section(0, 0));
        Expect.noState(what + ": letter", () -> x.letter(0, 0));
        Expect.noState(what + ": symbols", () -> x.symbols(0));
        Expect.noState(what + ": symbol", () -> x.symbol(0, 0, 0));
        Expect.noState(what + ": find", () -> x.find(0));
    }

    static void good(String what, Sample s) {
        verdict(what, s, 0, NONE);
    }

    static void bad(String what, Sample s, int rule) {
        verdict(what, s, rule, NONE);
    }

    /** A sentence of the document: the last value that it allows, and the first that it does not. */
    static void edge(String sentence, Sample allowed, Sample not, int rule, int broken) {
        good(sentence + " (allowed)", allowed);
        verdict(sentence + " (not allowed)", not, rule, broken);
    }

    static Sample seg(int k, int part, long value) {
        return Sample.segments().segment(k, part, value);
    }

    static Sample sec(int k, int part, long value) {
        return Sample.full().section(k, part, value);
    }

    static Sample sym(int i, int part, long value) {
        return Sample.full().symbolPart(i, part, value);
    }
}
