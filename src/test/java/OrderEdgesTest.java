/** 'The first that is broken counts': of two rules, of two parts with 'then' between them, of two rows. */
public final class OrderEdgesTest extends Verdict {
    private static final int SIZE = 640;

    public static void main(String[] args) {
        headRules();
        headBeforeRows();
        rowsBeforeLaterRules();
        rule11Parts();
        partsWithoutThen();
        firstRowOfEachRule();
        rule10ByRows();
        rule13BySectionsThenInOrder();
        toldOfTheLastJudgementAlone();
        entryIsLast();
        Expect.end();
    }

    /** Each change breaks one of the rules 2 to 6, whatever the others do. */
    private static Sample breakHead(Sample s, int rule) {
        switch (rule) {
            case 2: return s.put(0, 1, 0);
            case 3: return s.put(4, 1, 0);
            case 4: return s.head(Sample.KIND, 0);
            case 5: return s.head(Sample.HEAD_LENGTH, 0);
            default: return s.head(Sample.SECTION_TABLE, 4);
        }
    }

    private static void headRules() {
        for (int first = 2; first <= 6; first++) {
            for (int second = first; second <= 6; second++) {
                bad("rules " + first + " and " + second, breakHead(breakHead(rich(), second), first), first);
            }
            bad("rules 1 and " + first, breakHead(rich(), first).size(63), 1);
        }
    }

    /**
     * Three loaded segments; sections none, names, symbols (one), texts, symbols (one); 616 bytes.
     * Segments at 64 to 232, sections at 232 to 552, names at 552, texts at 556, symbols at 560 and 584.
     */
    private static Sample rich() {
        Sample s = Sample.tables(616, 64, 3, 232, 5, 552).section(1, Sample.T_LENGTH, 4);
        for (int k = 0; k < 3; k++) {
            s.segment(k, Sample.S_KIND, 1).segment(k, Sample.S_FLAGS, 1);
            s.segment(k, Sample.S_ADDRESS, 10 * k).segment(k, Sample.S_IN_MEMORY, 10);
        }
        s.section(3, Sample.T_KIND, 3).section(3, Sample.T_PLACE, 556).section(3, Sample.T_LENGTH, 4);
        for (int k = 2; k <= 4; k += 2) {
            s.section(k, Sample.T_KIND, 2).section(k, Sample.T_ENTRY, 24).section(k, Sample.T_LINK, 3);
            s.section(k, Sample.T_PLACE, k == 2 ? 560 : 584).section(k, Sample.T_LENGTH, 24);
            s.section(k, Sample.T_INFO, 1);
        }
        return s.head(Sample.KIND, 2).head(Sample.ENTRY, 5);
    }

    /** Breaks one of the rules 7 to 14, in the row that is told. */
    private static Sample breakRow(Sample s, int rule, int row) {
        switch (rule) {
            case 7: return s.segment(row, Sample.S_ALIGNMENT, 3);
            case 8: return s.segment(row, Sample.S_ADDRESS, 10 * row - 1);
            case 9: return s.section(row, Sample.T_ALIGNMENT, 3);
            case 10: return s.section(row, Sample.T_PLACE, 0);
            case 11: return s.section(row, Sample.T_NAME, 4);
            case 12: return s.section(row, Sample.T_ENTRY, 23);
            case 13: return s.put(row == 2 ? 560 : 584, 1, 1);
            default: return s.head(Sample.ENTRY, 30);
        }
    }

    private static int[] rowsOf(int rule) {
        switch (rule) {
            case 7: return new int[] {0, 1, 2};
            case 8: return new int[] {1, 2};
            case 9: return new int[] {1, 2, 3, 4};
            case 10: return new int[] {1, 2, 3, 4};
            case 11: return new int[] {1, 2, 3, 4};
            case 14: return new int[] {NONE};
            default: return new int[] {2, 4};
        }
    }

    private static void headBeforeRows() {
        good("the rich file", rich());
        for (int first = 2; first <= 6; first++) {
            for (int second = 7; second <= 14; second++) {
                for (int row : rowsOf(second)) {
                    bad("rules " + first + " and " + second, breakHead(breakRow(rich(), second, row), first), first);
                }
            }
        }
    }

    /** A rule counts by all rows before the next one: broken in a late row it comes before an early row's next rule. */
    private static void rowsBeforeLaterRules() {
        for (int first = 7; first <= 14; first++) {
            for (int row : rowsOf(first)) {
                verdict("rule " + first + " in " + row, breakRow(rich(), first, row), first, row);
                for (int second = first + 1; second <= 14; second++) {
                    for (int other : rowsOf(second)) {
                        verdict("rule " + first + " in " + row + ", " + second + " in " + other,
                            breakRow(breakRow(rich(), second, other), first, row), first, row);
                    }
                }
            }
        }
    }

    private static void rule11Parts() {
        Sample noNames = rich().head(Sample.NAMES, 2);
        verdict("11: the names' section", noNames, 11, 0);
        verdict("11: then texts", noNames.put(556, 1, 1).put(552, 1, 1), 11, 0);
        verdict("11: then names", noNames.section(1, Sample.T_NAME, 99), 11, 0);
        verdict("11: the number's higher byte too", rich().head(Sample.NAMES, 0x101).put(559, 1, 1), 11, 0);
        Sample texts = rich().put(559, 1, 1);
        verdict("11: texts", texts, 11, 3);
        for (int k = 1; k <= 4; k++) {
            verdict("11: all texts, then the name of " + k, rich().put(559, 1, 1).section(k, Sample.T_NAME, 4), 11, 3);
            verdict("11: the name of " + k, rich().section(k, Sample.T_NAME, 4), 11, k);
        }
        verdict("11: an earlier section of texts", texts.put(555, 1, 1), 11, 1);
        verdict("11: a length of 0 before a byte", rich().section(1, Sample.T_LENGTH, 0).put(559, 1, 1), 11, 1);
        verdict("11: a byte before a length of 0", rich().section(3, Sample.T_LENGTH, 0).put(555, 1, 1), 11, 1);
        verdict("11: the length of 0 alone", rich().section(3, Sample.T_LENGTH, 0), 11, 3);
        verdict("11: the names' section before a length of 0",
            rich().section(3, Sample.T_LENGTH, 0).head(Sample.NAMES, 0), 11, 0);
    }

    /** Parts with no 'then' between them count row by row, however late in the sentence they stand. */
    private static void partsWithoutThen() {
        int[] parts7 = {0, 1, 2, 3, 4};
        for (int early : parts7) {
            for (int late : parts7) {
                verdict("7: part " + late + " in 1, part " + early + " in 2",
                    breakSegment(breakSegment(rich(), 1, late), 2, early), 7, 1);
                verdict("9: part " + late + " in 1, part " + early + " in 2",
                    breakSection(breakSection(rich(), 1, late), 2, early), 9, 1);
                verdict("9: part " + early + " of 1 and section 0 not zeros",
                    breakSection(breakSection(rich(), 0, late), 1, early), 9, 0);
                verdict("12: part " + late + " in 2, part " + early + " in 4",
                    breakSymbols(breakSymbols(rich(), 2, late), 4, early), 12, 2);
            }
        }
    }

    private static Sample breakSegment(Sample s, int k, int part) {
        switch (part) {
            case 0: return s.segment(k, Sample.S_ALIGNMENT, 3);
            case 1: return s.segment(k, Sample.S_PLACE, 617);
            case 2: return s.segment(k, Sample.S_IN_FILE, 11);
            case 3: return s.segment(k, Sample.S_ADDRESS, -9);
            default: return s.segment(k, Sample.S_ALIGNMENT, 64);
        }
    }

    private static Sample breakSection(Sample s, int k, int part) {
        switch (part) {
            case 0: return s.section(k, Sample.T_KIND, 12);
            case 1: return s.section(k, Sample.T_ALIGNMENT, 3);
            case 2: return s.section(k, Sample.T_PLACE, 617);
            case 3: return s.section(k, Sample.T_PLACE, -1);
            default: return s.section(k, Sample.T_ALIGNMENT, 2).section(k, Sample.T_ADDRESS, 1);
        }
    }

    private static Sample breakSymbols(Sample s, int k, int part) {
        switch (part) {
            case 0: return s.section(k, Sample.T_ENTRY, 25);
            case 1: return s.section(k, Sample.T_LENGTH, 23);
            case 2: return s.section(k, Sample.T_LINK, 2);
            case 3: return s.section(k, Sample.T_LINK, 5);
            default: return s.section(k, Sample.T_INFO, 2);
        }
    }

    private static void firstRowOfEachRule() {
        for (int rule = 7; rule <= 13; rule++) {
            int[] rows = rowsOf(rule);
            for (int i = 0; i < rows.length; i++) {
                for (int j = i + 1; j < rows.length; j++) {
                    verdict("rule " + rule + " in " + rows[i] + " and " + rows[j],
                        breakRow(breakRow(rich(), rule, rows[j]), rule, rows[i]), rule, rows[i]);
                }
            }
        }
    }

    /** Five sections; which of the last three overlap is told by the lowest later one of a pair. */
    private static void rule10ByRows() {
        verdict("10: the pair 1 and 4 stands behind 2 and 3",
            rooms(500, 510, 510, 500), 10, 3);
        verdict("10: the pair 2 and 3 alone", rooms(500, 510, 510, 520), 10, 3);
        verdict("10: the pair 1 and 4 alone", rooms(500, 510, 520, 500), 10, 4);
        verdict("10: the pair 3 and 4 alone", rooms(500, 510, 520, 520), 10, 4);
        verdict("10: three at one place", rooms(500, 500, 500, 520), 10, 2);
        verdict("10: one on the head before a pair", rooms(500, 0, 520, 520), 10, 2);
        verdict("10: a pair before one on the head", rooms(500, 500, 520, 0), 10, 2);
        verdict("10: the first of a pair is on the head", rooms(0, 0, 510, 520), 10, 1);
        good("10: no pair", rooms(500, 510, 520, 530));
    }

    /** Section 1 to 4 of ten bytes each at these places. */
    private static Sample rooms(int... places) {
        Sample s = Sample.tables(SIZE, 0, 0, 64, 5, 0);
        for (int k = 1; k <= 4; k++) {
            s.section(k, Sample.T_KIND, k == 1 ? 3 : 1).section(k, Sample.T_PLACE, places[k - 1]);
            s.section(k, Sample.T_LENGTH, 10);
        }
        return s;
    }

    private static void rule13BySectionsThenInOrder() {
        verdict("13: told by section, the first", rich().put(560, 1, 1).put(584, 1, 1), 13, 2);
        verdict("13: told by section, the second", rich().put(584, 1, 1), 13, 4);
        verdict("13: the last byte of the first", rich().put(583, 1, 1).put(584, 1, 1), 13, 2);
        verdict("13: a name in the second, zeros in the first", rich().put(584, 4, 99).put(568, 1, 1), 13, 2);
        Sample swapped = rich().section(2, Sample.T_PLACE, 584).section(4, Sample.T_PLACE, 560);
        verdict("13: by number, not by place", swapped.put(560, 1, 1).put(584, 1, 1), 13, 2);
        good("13: neither", rich().section(2, Sample.T_PLACE, 584).section(4, Sample.T_PLACE, 560));
    }

    /** What was told before is not told again: from a rule that tells of a row to each other, with none between. */
    private static void toldOfTheLastJudgementAlone() {
        for (int rule = 7; rule <= 14; rule++) {
            int[] rows = rowsOf(rule);
            int row = rows[rows.length - 1];
            for (int ofHead = 1; ofHead <= 6; ofHead++) {
                FileJudge x = breakRow(rich(), rule, row).fed();
                Expect.answer("5: first", rule, x::judge);
                Expect.answer("6: first", row, x::broken);
                Sample next = ofHead == 1 ? rich().size(63) : breakHead(rich(), ofHead);
                x.clear();
                Sample.feedTo(x, next.bytes);
                Expect.answer("5: then rule " + ofHead, ofHead, x::judge);
                Expect.answer("6: then rule " + ofHead, NONE, x::broken);
            }
            for (int other = 7; other <= 14; other++) {
                FileJudge x = breakRow(rich(), rule, row).judged();
                x.clear();
                Sample.feedTo(x, breakRow(rich(), other, rowsOf(other)[0]).bytes);
                Expect.answer("5: then rule " + other, other, x::judge);
                Expect.answer("6: then rule " + other, rowsOf(other)[0], x::broken);
                x.clear();
                Sample.feedTo(x, rich().bytes);
                Expect.answer("5: then good", 0, x::judge);
                Expect.answer("6: then good", NONE, x::broken);
            }
        }
    }

    private static void entryIsLast() {
        bad("14: alone", rich().head(Sample.ENTRY, 30), 14);
        edge("14: the last rule", rich().head(Sample.ENTRY, 29), rich().head(Sample.ENTRY, 30), 14, NONE);
    }
}
