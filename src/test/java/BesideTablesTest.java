/** Bytes right before and behind a table are no rows of it, though they may look like such; nor do they hide any. */
public final class BesideTablesTest extends Verdict {
    private static final int SIZE = 640;
    private static final int NAMES = 608;
    private static final int BYTES = 616;
    private static final long PATTERN = 0x8807060504030281L;

    public static void main(String[] args) {
        segmentsBeside();
        segmentsBesideRise();
        segmentsBesideAreNotFound();
        sectionsBesideAreNotJudged();
        sectionsBesideHideNothing();
        sectionsBesideCannotBeNamed();
        sectionsBesideCannotBeAsked();
        symbolsBeside();
        rowsAtTheEndOfTheFile();
        Expect.end();
    }

    /** Segments at 120 to 232, sections (none, names, bytes) at 352 to 544; a row fits on each side of both. */
    private static Sample roomy() {
        Sample s = Sample.tables(SIZE, 120, 2, 352, 3, NAMES);
        return s.section(2, Sample.T_KIND, 1).section(2, Sample.T_PLACE, BYTES).section(2, Sample.T_LENGTH, 24);
    }

    private static Sample loaded(Sample s, int k, long address, long inMemory) {
        return s.segment(k, Sample.S_KIND, 1).segment(k, Sample.S_FLAGS, 1)
            .segment(k, Sample.S_ADDRESS, address).segment(k, Sample.S_IN_MEMORY, inMemory);
    }

    private static void segmentsBeside() {
        for (int k : new int[] {-1, 2}) {
            good("7: beside, " + k, roomy().segment(k, Sample.S_ALIGNMENT, 3));
            verdict("7: a row behind it, " + k, roomy().segment(k, Sample.S_ALIGNMENT, 3)
                .segment(1, Sample.S_ALIGNMENT, 3), 7, 1);
            verdict("7: the first row, " + k, roomy().segment(k, Sample.S_ALIGNMENT, 3)
                .segment(0, Sample.S_ALIGNMENT, 3), 7, 0);
        }
    }

    private static void segmentsBesideRise() {
        Sample s = loaded(loaded(roomy(), 0, 100, 10), 1, 110, 10);
        good("8: the rows rise", s);
        good("8: one before lies above", loaded(s, -1, 500, 10));
        good("8: one behind lies below", loaded(s, 2, 0, 10));
        verdict("8: a row sinks", loaded(s, 1, 109, 10), 8, 1);
    }

    private static void segmentsBesideAreNotFound() {
        Sample s = loaded(loaded(roomy(), 0, 100, 10), 1, 110, 10);
        s = loaded(loaded(s, -1, 50, 10), 2, 200, 10).head(Sample.KIND, 2);
        good("14: in the first row", s.head(Sample.ENTRY, 100));
        good("14: in the last row", s.head(Sample.ENTRY, 119));
        bad("14: beside the first row", s.head(Sample.ENTRY, 55), 14);
        bad("14: beside the last row", s.head(Sample.ENTRY, 205), 14);
        FileJudge x = s.head(Sample.ENTRY, 100).judged();
        Expect.answer("13: beside the first row", NONE, () -> x.find(55));
        Expect.answer("13: in the first row", 0, () -> x.find(100));
        Expect.answer("13: in the last row", 1, () -> x.find(110));
        Expect.answer("13: beside the last row", NONE, () -> x.find(205));
        Expect.noElement("8: beside the first row", () -> x.segment(-1, 3));
        Expect.noElement("8: beside the last row", () -> x.segment(2, 3));
        FileJudge same = loaded(s, -1, 100, 10).judged();
        Expect.answer("13: not hidden by one beside", 0, () -> same.find(100));
    }

    /** Makes a row, beside the table or in it, that breaks one of the rules 9 to 13. */
    private static Sample breaking(Sample s, int k, int rule) {
        switch (rule) {
            case 9: return s.section(k, Sample.T_ALIGNMENT, 3);
            case 10: return s.section(k, Sample.T_KIND, 1).section(k, Sample.T_PLACE, 0).section(k, Sample.T_LENGTH, 9);
            case 11: return s.section(k, Sample.T_NAME, 9);
            case 12: return symbols(s, k).section(k, Sample.T_ENTRY, 23);
            default: return symbols(s, k).put(BYTES, 1, 1);
        }
    }

    private static Sample symbols(Sample s, int k) {
        return s.section(k, Sample.T_KIND, 2).section(k, Sample.T_PLACE, BYTES).section(k, Sample.T_LENGTH, 24)
            .section(k, Sample.T_ENTRY, 24).section(k, Sample.T_LINK, 1).section(k, Sample.T_INFO, 1);
    }

    private static Sample texts(Sample s, int k) {
        return s.section(k, Sample.T_KIND, 3).section(k, Sample.T_PLACE, BYTES).section(k, Sample.T_LENGTH, 1);
    }

    private static void sectionsBesideAreNotJudged() {
        for (int k : new int[] {-1, 3}) {
            for (int rule = 9; rule <= 13; rule++) {
                good(rule + ": beside, " + k, breaking(roomy(), k, rule));
            }
            good("11: texts beside, " + k, texts(roomy(), k).put(BYTES, 1, 1));
            good("10: another room beside, " + k, roomy().section(k, Sample.T_KIND, 1)
                .section(k, Sample.T_PLACE, BYTES).section(k, Sample.T_LENGTH, 24));
        }
    }

    private static void sectionsBesideHideNothing() {
        for (int k : new int[] {-1, 3}) {
            for (int rule = 9; rule <= 13; rule++) {
                verdict(rule + ": behind one beside, " + k, breaking(breaking(roomy(), k, rule), 2, rule), rule, 2);
            }
            Sample s = texts(texts(roomy(), k), 2).put(BYTES, 1, 1);
            verdict("11: texts behind one beside, " + k, s, 11, 2);
        }
    }

    private static void sectionsBesideCannotBeNamed() {
        Sample s = texts(roomy(), 3).section(2, Sample.T_KIND, 0);
        verdict("11: names in one behind", s.head(Sample.NAMES, 3), 11, 0);
        verdict("11: names in one before", texts(roomy(), -1).head(Sample.NAMES, 65535), 11, 0);
        Sample t = symbols(roomy(), 2);
        good("12: a link", t);
        t.section(3, Sample.T_KIND, 3).section(3, Sample.T_PLACE, 601).section(3, Sample.T_LENGTH, 1);
        verdict("12: a link behind", t.section(2, Sample.T_LINK, 3), 12, 2);
        Sample u = symbols(roomy(), 2);
        u.section(-1, Sample.T_KIND, 3).section(-1, Sample.T_PLACE, 601).section(-1, Sample.T_LENGTH, 1);
        verdict("12: a link before", u.section(2, Sample.T_LINK, 0xFFFFFFFFL), 12, 2);
    }

    private static void sectionsBesideCannotBeAsked() {
        for (int k : new int[] {-1, 3}) {
            FileJudge x = symbols(roomy(), k).judged();
            Expect.answer("beside, " + k + ": sections", 3, () -> x.many(1));
            Expect.noElement("9: beside, " + k, () -> x.section(k, 0));
            Expect.noElement("11: beside, " + k, () -> x.symbols(k));
            Expect.noElement("12: beside, " + k, () -> x.symbol(k, 0, 0));
            Sample named = roomy().section(1, Sample.T_LENGTH, 4).put(NAMES + 1, 1, 'a');
            FileJudge y = named.section(k, Sample.T_NAME, 1).judged();
            Expect.noElement("10: beside, " + k, () -> y.letter(k, 0));
        }
    }

    private static void symbolsBeside() {
        Sample s = Sample.tables(SIZE, 0, 0, 64, 3, 256);
        s = symbols(s, 2).section(2, Sample.T_PLACE, 300).section(2, Sample.T_LENGTH, 48).section(2, Sample.T_INFO, 2);
        good("13: two symbols", s);
        good("13: one before", s.put(300 - 24, 8, -1));
        good("13: one behind", s.put(348, 8, -1));
        verdict("13: symbol 0", s.put(300, 1, 1), 13, 2);
        FileJudge x = s.put(300, 1, 0).judged();
        Expect.noElement("12: one before", () -> x.symbol(2, -1, 0));
        Expect.noElement("12: one behind", () -> x.symbol(2, 2, 0));
    }

    /** The last bytes of the file belong to the last row, and are read as all others are. */
    private static void rowsAtTheEndOfTheFile() {
        FileJudge x = Sample.tables(120, 64, 1, 0, 0, 0).segment(0, Sample.S_ALIGNMENT, TOP).judged();
        Expect.answer("8: alignment at the end", TOP, () -> x.segment(0, 6));
        verdict("7: alignment at the end", Sample.tables(120, 64, 1, 0, 0, 0).segment(0, Sample.S_ALIGNMENT, 3), 7, 0);
        Sample s = Sample.tables(288, 0, 0, 96, 3, 64).section(2, Sample.T_KIND, 2).section(2, Sample.T_LINK, 1);
        good("12: entries at the end", s.section(2, Sample.T_ENTRY, 24));
        verdict("12: entries of 25 at the end", s.section(2, Sample.T_ENTRY, 25), 12, 2);
        verdict("12: entries of 2^63 more at the end", s.section(2, Sample.T_ENTRY, TOP + 24), 12, 2);
        Sample t = symbols(Sample.tables(304, 0, 0, 64, 3, 256), 2).section(2, Sample.T_INFO, 2);
        t.section(2, Sample.T_PLACE, 257).section(2, Sample.T_LENGTH, 47);
        verdict("12: symbols of 47 bytes at the end", t, 12, 2);
        t.size(305).section(2, Sample.T_LENGTH, 48).put(297, 8, PATTERN);
        FileJudge y = t.judged();
        Expect.answer("12: a size at the end", PATTERN, () -> y.symbol(2, 1, 1));
        Expect.answer("12: a value before it", 0, () -> y.symbol(2, 1, 0));
    }
}
