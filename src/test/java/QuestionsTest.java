/** Promises 7 to 13: what can be asked of a good file, and how a question is refused. */
public final class QuestionsTest {
    private static final int[] FAR = {Integer.MIN_VALUE, -1, 65536, Integer.MAX_VALUE};

    public static void main(String[] args) {
        many();
        segment();
        section();
        namesInOtherTexts();
        letter();
        symbols();
        symbol();
        symbolNamesByLink();
        find();
        bytesBehindTablesAreNoRows();
        findAtTheTop();
        filesThatAreNotGoodAnswerNothing();
        refusalsCountInOrder();
        questionsChangeNothing();
        Expect.end();
    }

    private static void many() {
        FileJudge x = Sample.full().judged();
        Expect.answer("segments", 1, () -> x.many(0));
        Expect.answer("sections", 6, () -> x.many(1));
        for (int what : new int[] {-1, 2, Integer.MIN_VALUE, Integer.MAX_VALUE}) {
            Expect.noArgument("many " + what, () -> x.many(what));
        }
        FileJudge y = Sample.segments().judged();
        Expect.answer("four segments", 4, () -> y.many(0));
        Expect.answer("no sections", 0, () -> y.many(1));
    }

    private static void segment() {
        Sample s = Sample.segments().segment(1, Sample.S_FLAGS, 0xFFFFFFFFL).segment(1, Sample.S_KIND, 0x87654321L);
        FileJudge x = s.judged();
        long[][] due = {
            {1, 5, 0, 0x1000, 320, 0x200, 0x1000},
            {0x87654321L, 0xFFFFFFFFL, 64, 0x40, 224, 224, 8},
            {1, 6, 288, 0x2120, 16, 0x100, 0x1000},
            {1, 4, 304, -16, 8, 16, 0}};
        for (int k = 0; k < due.length; k++) {
            for (int what = 0; what < 7; what++) {
                int row = k;
                int part = what;
                Expect.answer("segment " + k + " " + what, due[k][what], () -> x.segment(row, part));
            }
        }
        Expect.noElement("segment 4", () -> x.segment(4, 0));
        for (int k : FAR) {
            Expect.noElement("segment " + k, () -> x.segment(k, 6));
        }
        for (int what : new int[] {-1, 7, Integer.MIN_VALUE, Integer.MAX_VALUE}) {
            Expect.noArgument("segment's what " + what, () -> x.segment(0, what));
        }
        Expect.noElement("segment 0 of none", () -> Sample.head().judged().segment(0, 0));
    }

    private static void section() {
        FileJudge x = Sample.full().judged();
        long[][] due = {
            {0, 0, 0, 0, 0, 0, 0},
            {3, 0, 120, 16, 0, 0, 3},
            {3, 0, 136, 8, 0, 0, 2},
            {2, 0, 144, 72, 2, 2, 2},
            {1, -2, 600, 16, 7, 9, 5},
            {8, 0, 616, 0x500, 0xFFFFFFFFL, 0xFFFFFFFEL, 0}};
        for (int k = 0; k < due.length; k++) {
            for (int what = 0; what < 7; what++) {
                int row = k;
                int part = what;
                Expect.answer("section " + k + " " + what, due[k][what], () -> x.section(row, part));
            }
        }
        Expect.noElement("section 6", () -> x.section(6, 0));
        for (int k : FAR) {
            Expect.noElement("section " + k, () -> x.section(k, 6));
        }
        for (int what : new int[] {-1, 7, Integer.MIN_VALUE, Integer.MAX_VALUE}) {
            Expect.noArgument("section's what " + what, () -> x.section(0, what));
        }
        Expect.noElement("section 0 of none", () -> Sample.segments().judged().section(0, 0));
    }

    private static void namesInOtherTexts() {
        FileJudge x = Sample.full().head(Sample.NAMES, 2).section(4, Sample.T_NAME, 7)
            .section(5, Sample.T_NAME, 6).judged();
        Expect.answer("main", 4, () -> x.section(1, 6));
        Expect.answer("m", 'm', () -> x.letter(1, 0));
        Expect.answer("n", 'n', () -> x.letter(1, 3));
        Expect.answer("ain", 3, () -> x.section(2, 6));
        Expect.answer("no name", 0, () -> x.section(4, 6));
        Expect.answer("f", 'f', () -> x.letter(5, 0));
    }

    private static void letter() {
        FileJudge x = Sample.full().judged();
        String[] names = {"", ".na", "na", "xy", "\u00FFdata", ""};
        for (int k = 0; k < names.length; k++) {
            int row = k;
            int length = names[k].length();
            for (int i = 0; i < length; i++) {
                int place = i;
                Expect.answer("letter " + k + " " + i, names[k].charAt(i), () -> x.letter(row, place));
            }
            Expect.noElement("letter behind the name of " + k, () -> x.letter(row, length));
            for (int i : FAR) {
                Expect.noElement("letter " + k + " " + i, () -> x.letter(row, i));
            }
        }
        Expect.noElement("letter of section 6", () -> x.letter(6, 0));
        for (int k : FAR) {
            Expect.noElement("letter of section " + k, () -> x.letter(k, 0));
        }
        Expect.noElement("letter without sections", () -> Sample.head().judged().letter(0, 0));
    }

    private static void symbols() {
        FileJudge x = Sample.full().judged();
        int[] due = {0, 0, 0, 3, 0, 0};
        for (int k = 0; k < due.length; k++) {
            int row = k;
            Expect.answer("symbols of " + k, due[k], () -> x.symbols(row));
        }
        Expect.noElement("symbols of 6", () -> x.symbols(6));
        for (int k : FAR) {
            Expect.noElement("symbols of " + k, () -> x.symbols(k));
        }
        Sample none = Sample.full().section(3, Sample.T_LENGTH, 0).section(3, Sample.T_INFO, 0);
        Expect.answer("no symbols in their section", 0, () -> none.judged().symbols(3));
        Sample bytes = Sample.full().section(4, Sample.T_LENGTH, 24).section(4, Sample.T_ENTRY, 24).size(640);
        Expect.answer("entries of another kind", 0, () -> bytes.judged().symbols(4));
    }

    private static void symbol() {
        FileJudge x = Sample.full().judged();
        long[][] due = {
            {0, 0, 0, 0, 0},
            {5, -1, 4, 0, 4},
            {Long.MIN_VALUE, 77, 65521, 15, 1}};
        for (int i = 0; i < due.length; i++) {
            for (int what = 0; what < 5; what++) {
                int row = i;
                int part = what;
                Expect.answer("symbol " + i + " " + what, due[i][what], () -> x.symbol(3, row, part));
            }
        }
        Expect.noElement("symbol 3", () -> x.symbol(3, 3, 0));
        for (int far : FAR) {
            Expect.noElement("symbol " + far, () -> x.symbol(3, far, 4));
            Expect.noElement("symbol of section " + far, () -> x.symbol(far, 0, 4));
        }
        for (int k : new int[] {0, 1, 2, 4, 5, 6}) {
            Expect.noElement("symbol of section " + k, () -> x.symbol(k, 0, 0));
        }
        for (int what : new int[] {-1, 5, Integer.MIN_VALUE, Integer.MAX_VALUE}) {
            Expect.noArgument("symbol's what " + what, () -> x.symbol(3, 0, what));
        }
    }

    private static void symbolNamesByLink() {
        FileJudge x = Sample.full().section(3, Sample.T_LINK, 1).symbolPart(2, Sample.Y_NAME, 8).judged();
        Expect.answer(".na", 3, () -> x.symbol(3, 1, 4));
        Expect.answer("data and a byte above 127", 5, () -> x.symbol(3, 2, 4));
    }

    private static void find() {
        FileJudge x = Sample.segments().judged();
        long[] addresses = {0, 0x40, 0xFFF, 0x1000, 0x11FF, 0x1200, 0x211F, 0x2120, 0x221F, 0x2220,
            Long.MAX_VALUE, Long.MIN_VALUE, Long.MIN_VALUE + 0x1000};
        int[] due = {-1, -1, -1, 0, 0, -1, -1, 2, 2, -1, -1, -1, -1};
        for (int i = 0; i < addresses.length; i++) {
            long address = addresses[i];
            Expect.answer("find " + address, due[i], () -> x.find(address));
        }
        Expect.answer("find without segments", -1, () -> Sample.head().judged().find(0));
        FileJudge y = Sample.segments().segment(0, Sample.S_IN_FILE, 0).segment(0, Sample.S_IN_MEMORY, 0).judged();
        Expect.answer("no memory, no address in it", -1, () -> y.find(0x1000));
        FileJudge z = Sample.segments().segment(0, Sample.S_FLAGS, 0).judged();
        Expect.answer("found though it may not be run", 0, () -> z.find(0x1000));
    }

    private static void bytesBehindTablesAreNoRows() {
        FileJudge x = Sample.segments().head(Sample.SEGMENTS, 3).judged();
        Expect.answer("find in no segment", -1, () -> x.find(-16));
        Expect.noElement("segment 3", () -> x.segment(3, 0));
        FileJudge y = Sample.full().head(Sample.SECTIONS, 5).judged();
        Expect.noElement("section 5", () -> y.section(5, 0));
        Expect.noElement("symbols 5", () -> y.symbols(5));
    }

    private static void findAtTheTop() {
        FileJudge x = Sample.segments().judged();
        Expect.answer("find -17", -1, () -> x.find(-17));
        Expect.answer("find -16", 3, () -> x.find(-16));
        Expect.answer("find -1", 3, () -> x.find(-1));
        FileJudge y = Sample.segments().segment(3, Sample.S_IN_MEMORY, 15).judged();
        Expect.answer("find -2 of 15 bytes", 3, () -> y.find(-2));
        Expect.answer("find -1 of 15 bytes", -1, () -> y.find(-1));
        FileJudge z = Sample.segments().segment(2, Sample.S_IN_MEMORY, -0x2130).judged();
        Expect.answer("find in a memory above 2^63", 2, () -> z.find(Long.MIN_VALUE));
        Expect.answer("find at its last byte", 2, () -> z.find(-17));
        Expect.answer("find behind it", 3, () -> z.find(-16));
    }

    private static void filesThatAreNotGoodAnswerNothing() {
        FileJudge x = Sample.full().head(Sample.ENTRY, 0).judged();
        Expect.answer("what broke it may be asked", -1, x::broken);
        Expect.noState("many 0", () -> x.many(0));
        Expect.noState("many 1", () -> x.many(1));
        Expect.noState("segment", () -> x.segment(0, 0));
        Expect.noState("section", () -> x.section(1, 0));
        Expect.noState("letter", () -> x.letter(1, 0));
        Expect.noState("symbols", () -> x.symbols(3));
        Expect.noState("symbol", () -> x.symbol(3, 1, 0));
        Expect.noState("find", () -> x.find(0x1000));
    }

    /** An argument before a state, a state before a missing row: the order in which the document names them. */
    private static void refusalsCountInOrder() {
        FileJudge x = new FileJudge();
        Expect.noArgument("many", () -> x.many(2));
        Expect.noArgument("segment", () -> x.segment(0, 7));
        Expect.noArgument("section", () -> x.section(0, 7));
        Expect.noArgument("symbol", () -> x.symbol(0, 0, 5));
        Expect.noState("segment -1", () -> x.segment(-1, 0));
        Expect.noState("section -1", () -> x.section(-1, 0));
        Expect.noState("letter -1", () -> x.letter(-1, -1));
        Expect.noState("symbols -1", () -> x.symbols(-1));
        Expect.noState("symbol -1", () -> x.symbol(-1, -1, 0));
        FileJudge y = Sample.full().judged();
        Expect.noArgument("segment of none", () -> y.segment(1, 7));
        Expect.noArgument("section of none", () -> y.section(6, -1));
        Expect.noArgument("symbol of none", () -> y.symbol(6, 0, 5));
        Expect.noArgument("symbol of one without", () -> y.symbol(1, 0, -1));
    }

    private static void questionsChangeNothing() {
        FileJudge x = Sample.full().judged();
        for (int i = 0; i < 20; i++) {
            Expect.answer("many", 6, () -> x.many(1));
            Expect.noElement("segment", () -> x.segment(1, 0));
            Expect.noArgument("section", () -> x.section(1, 7));
            Expect.answer("letter", '.', () -> x.letter(1, 0));
            Expect.answer("symbols", 3, () -> x.symbols(3));
            Expect.answer("find", 0, () -> x.find(0x1000));
            Expect.answer("broken", -1, x::broken);
        }
        Expect.answer("size", 617, () -> x.feed(0, 1));
    }
}
