/** Promises 5 to 13 on files made by chance (from a fixed seed), against a second reading of the document. */
public final class ReferenceTest {
    private static final int FILES = 40_000;
    private static final int LEAST_OF_EACH_RULE = 20;
    private static final int MOST_CALLS = 512;
    private static final int[] EDGES = {-1, 0, 1, 2, 3, 7, Integer.MIN_VALUE, Integer.MAX_VALUE};

    private static byte[] file;
    private static FileJudge judge;
    private static int calls;
    private static int number;

    public static void main(String[] args) {
        Chance chance = new Chance(20261115);
        int[] seen = new int[15];
        for (number = 0; number < FILES; number++) {
            file = chance.next();
            Reference due = new Reference(file);
            seen[due.rule]++;
            compare(due);
        }
        for (int rule = 0; rule < seen.length; rule++) {
            Expect.same("rule " + rule + " seen often enough", "true", "" + (seen[rule] >= LEAST_OF_EACH_RULE));
        }
        Expect.end();
    }

    private static void compare(Reference due) {
        judge = new FileJudge();
        Sample.feedTo(judge, file);
        calls = (file.length + 7) / 8;
        same("judge", Integer.toString(due.rule), () -> judge.judge());
        same("broken", Integer.toString(due.broken), () -> judge.broken());
        if (due.rule == 0) {
            compareTables(due);
            compareNamesAndSymbols(due);
        } else if (number % 50 == 0) {
            compareTables(due);
        }
        compareFind(due);
    }

    private static void compareTables(Reference due) {
        for (int what = -1; what <= 2; what++) {
            int part = what;
            same("many " + what, due.many(what), () -> judge.many(part));
        }
        int most = 10;
        for (int k = -1; k <= most; k++) {
            int row = k;
            for (int what = 0; what <= 7; what++) {
                int part = what;
                same("segment " + k + " " + what, due.segment(k, what), () -> judge.segment(row, part));
                same("section " + k + " " + what, due.section(k, what), () -> judge.section(row, part));
            }
            same("symbols " + k, due.symbols(k), () -> judge.symbols(row));
        }
    }

    private static void compareNamesAndSymbols(Reference due) {
        int sections = Integer.parseInt(due.many(1));
        for (int k = -1; k <= sections; k++) {
            int row = k;
            for (int i = -1; i <= 12; i++) {
                int place = i;
                same("letter " + k + " " + i, due.letter(k, i), () -> judge.letter(row, place));
            }
            for (int i = -1; i <= 4; i++) {
                int place = i;
                for (int what = -1; what <= 5; what++) {
                    int part = what;
                    same("symbol " + k + " " + i + " " + what, due.symbol(k, i, what),
                        () -> judge.symbol(row, place, part));
                }
            }
            for (int i : EDGES) {
                same("letter " + k + " " + i, due.letter(k, i), () -> judge.letter(row, i));
                same("symbol " + k + " " + i, due.symbol(k, i, 4), () -> judge.symbol(row, i, 4));
            }
        }
    }

    private static void compareFind(Reference due) {
        for (long address : new long[] {0, -1, Long.MIN_VALUE, Long.MAX_VALUE}) {
            same("find " + address, due.find(address), () -> judge.find(address));
        }
        if (due.rule != 0) {
            return;
        }
        int segments = Integer.parseInt(due.many(0));
        for (int k = 0; k < segments; k++) {
            long begin = Long.parseLong(due.segment(k, 3));
            long length = Long.parseLong(due.segment(k, 5));
            for (long address : new long[] {begin - 1, begin, begin + length / 2, begin + length - 1, begin + length}) {
                same("find " + address, due.find(address), () -> judge.find(address));
            }
        }
    }

    /** Goes on with a new object before the last call for which the document promises anything. */
    private static void same(String what, String due, Expect.Call call) {
        if (calls >= MOST_CALLS) {
            judge = new FileJudge();
            Sample.feedTo(judge, file);
            judge.judge();
            calls = (file.length + 7) / 8 + 1;
        }
        calls++;
        Expect.same("file " + number + ": " + what, due, Expect.told(call));
    }
}
