import java.util.ArrayList;
import java.util.LinkedHashMap;
import java.util.List;
import java.util.Map;

/** Each refused call, in each state: what it throws, and that the calls behind it answer as if it had not been. */
public final class RefusalsTest extends Verdict {
    private static final String A = "throws.IllegalArgumentException";
    private static final String S = "throws.IllegalStateException";
    private static final String N = "throws.NoSuchElementException";
    private static final int NOT_JUDGED = -1;

    private interface Question {
        long ask(FileJudge x);
    }

    /** A file, whether it is judged, and what that said. */
    private static final class State {
        final String name;
        final Sample file;
        final int rule;
        final int broken;

        State(String name, Sample file, int rule, int broken) {
            this.name = name;
            this.file = file;
            this.rule = rule;
            this.broken = broken;
        }

        FileJudge made() {
            return rule == NOT_JUDGED ? file.fed() : file.judged();
        }

        int size() {
            return file.bytes.length;
        }

        boolean isGood() {
            return rule == 0;
        }
    }

    public static void main(String[] args) {
        for (State state : states()) {
            Map<String, Question> calls = new LinkedHashMap<>();
            Map<String, String> due = new LinkedHashMap<>();
            refuseChanges(state, calls, due);
            refuseQuestions(state, calls, due);
            refuseRows(state, calls, due);
            eachAlone(state, calls, due);
            allTogether(state, calls, due);
        }
        theFirstRefusalCounts();
        Expect.end();
    }

    private static List<State> states() {
        List<State> states = new ArrayList<>();
        Sample nothing = Sample.head().size(0);
        states.add(new State("new", nothing, NOT_JUDGED, NONE));
        states.add(new State("new, judged", nothing, 1, NONE));
        states.add(new State("63 bytes, judged", Sample.head().size(63), 1, NONE));
        states.add(new State("good, not judged", Sample.full(), NOT_JUDGED, NONE));
        states.add(new State("good", Sample.full(), 0, NONE));
        states.add(new State("good and full", Sample.full().size(640), 0, NONE));
        states.add(new State("good, four bytes free", Sample.full().size(636), 0, NONE));
        states.add(new State("four bytes free, not good", Sample.full().size(636).put(4, 1, 0), 3, NONE));
        states.add(new State("full, not judged", Sample.full().size(640), NOT_JUDGED, NONE));
        states.add(new State("head alone", Sample.head(), 0, NONE));
        states.add(new State("mark", Sample.full().size(640).put(0, 1, 0), 2, NONE));
        states.add(new State("segment 0", Sample.full().segment(0, Sample.S_ALIGNMENT, 3), 7, 0));
        states.add(new State("segment 2", seg(2, Sample.S_ADDRESS, 0x120), 8, 2));
        states.add(new State("section 4", Sample.full().size(640).section(4, Sample.T_KIND, 12), 9, 4));
        states.add(new State("section 2", sec(2, Sample.T_PLACE, 135), 10, 2));
        states.add(new State("names", Sample.full().head(Sample.NAMES, 0), 11, 0));
        states.add(new State("symbols", sec(3, Sample.T_ENTRY, 0), 12, 3));
        states.add(new State("symbol", sym(0, Sample.Y_SIZE, 1), 13, 3));
        states.add(new State("entry", Sample.full().head(Sample.ENTRY, 0), 14, NONE));
        return states;
    }

    private static void refuseChanges(State state, Map<String, Question> calls, Map<String, String> due) {
        for (int n : new int[] {0, 9, -1, Integer.MIN_VALUE, Integer.MAX_VALUE}) {
            calls.put("feed n " + n, x -> x.feed(-1, n));
            due.put("feed n " + n, A);
        }
        for (int k : new int[] {-1, state.size(), 640, Integer.MIN_VALUE, Integer.MAX_VALUE}) {
            for (int bits = 0; bits < 2; bits++) {
                int turned = bits;
                calls.put("spoil " + k + " by " + bits, x -> spoil(x, k, turned));
                due.put("spoil " + k + " by " + bits, A);
            }
        }
        for (int n = 641 - state.size(); n <= 8; n++) {
            int count = n;
            calls.put("feed " + n + " too many", x -> x.feed(-1, count));
            due.put("feed " + n + " too many", S);
        }
    }

    private static long spoil(FileJudge x, int k, int bits) {
        x.spoil(k, bits);
        return 0;
    }

    private static void refuseQuestions(State state, Map<String, Question> calls, Map<String, String> due) {
        for (int what : new int[] {-1, 2, Integer.MIN_VALUE, Integer.MAX_VALUE}) {
            calls.put("many " + what, x -> x.many(what));
            due.put("many " + what, A);
        }
        for (int what : new int[] {-1, 7, Integer.MIN_VALUE, Integer.MAX_VALUE}) {
            calls.put("segment's " + what, x -> x.segment(0, what));
            calls.put("section's " + what, x -> x.section(0, what));
            due.put("segment's " + what, A);
            due.put("section's " + what, A);
        }
        for (int what : new int[] {-1, 5, Integer.MIN_VALUE, Integer.MAX_VALUE}) {
            calls.put("symbol's " + what, x -> x.symbol(3, 0, what));
            due.put("symbol's " + what, A);
        }
        if (state.rule == NOT_JUDGED) {
            calls.put("broken", FileJudge::broken);
            due.put("broken", S);
        }
        if (!state.isGood()) {
            calls.put("many 0", x -> x.many(0));
            calls.put("many 1", x -> x.many(1));
            calls.put("segment", x -> x.segment(0, 6));
            calls.put("section", x -> x.section(0, 6));
            calls.put("letter", x -> x.letter(1, 0));
            calls.put("symbols", x -> x.symbols(3));
            calls.put("symbol", x -> x.symbol(3, 0, 4));
            calls.put("find", x -> x.find(0x1000));
            for (String call : new String[] {"many 0", "many 1", "segment", "section", "letter", "symbols", "symbol",
                "find"}) {
                due.put(call, S);
            }
        }
    }

    /** Rows that are not there: told so of a good file, of another nothing is told. */
    private static void refuseRows(State state, Map<String, Question> calls, Map<String, String> due) {
        String missing = state.isGood() ? N : S;
        int segments = state.isGood() ? state.file.count(Sample.SEGMENTS) : 1;
        int sections = state.isGood() ? state.file.count(Sample.SECTIONS) : 6;
        for (int k : new int[] {-1, segments, 65535, Integer.MIN_VALUE, Integer.MAX_VALUE}) {
            calls.put("segment " + k, x -> x.segment(k, 0));
            due.put("segment " + k, missing);
        }
        for (int k : new int[] {-1, sections, 65535, Integer.MIN_VALUE, Integer.MAX_VALUE}) {
            calls.put("section " + k, x -> x.section(k, 6));
            calls.put("letter of " + k, x -> x.letter(k, 0));
            calls.put("symbols of " + k, x -> x.symbols(k));
            calls.put("symbol of " + k, x -> x.symbol(k, 0, 4));
            calls.put("symbol " + k, x -> x.symbol(3, k == sections ? 3 : k, 4));
            calls.put("letter " + k, x -> x.letter(1, k == sections ? 3 : k));
            for (String call : new String[] {"section", "letter of", "symbols of", "symbol of", "symbol", "letter"}) {
                due.put(call + " " + k, missing);
            }
        }
        calls.put("symbol of texts", x -> x.symbol(2, 0, 0));
        due.put("symbol of texts", missing);
    }

    private static void eachAlone(State state, Map<String, Question> calls, Map<String, String> due) {
        List<String> asIfNot = behind(state, state.made());
        for (Map.Entry<String, Question> call : calls.entrySet()) {
            String what = state.name + ": " + call.getKey();
            FileJudge x = state.made();
            Expect.same(what, due.get(call.getKey()), Expect.told(() -> call.getValue().ask(x)));
            Expect.same(what + ", refused again", due.get(call.getKey()), Expect.told(() -> call.getValue().ask(x)));
            Expect.same(what + ": calls behind it", asIfNot.toString(), behind(state, x).toString());
        }
    }

    private static void allTogether(State state, Map<String, Question> calls, Map<String, String> due) {
        FileJudge x = state.made();
        for (Map.Entry<String, Question> call : calls.entrySet()) {
            Expect.same(state.name + ": " + call.getKey() + " in a row", due.get(call.getKey()),
                Expect.told(() -> call.getValue().ask(x)));
        }
        Expect.same(state.name + ": calls behind all", behind(state, state.made()).toString(),
            behind(state, x).toString());
    }

    /** Asks for all that can be seen of an object, then judges it and asks again, then goes on with the file. */
    private static List<String> behind(State state, FileJudge x) {
        List<String> answers = new ArrayList<>();
        String told = state.rule == NOT_JUDGED ? S : Integer.toString(state.broken);
        Expect.same(state.name + ": broken", told, Expect.told(x::broken));
        see(x, answers);
        int rule = x.judge();
        if (state.rule != NOT_JUDGED) {
            Expect.same(state.name + ": judged again", Integer.toString(state.rule), Integer.toString(rule));
        }
        answers.add(Integer.toString(rule));
        see(x, answers);
        if (state.size() < 640) {
            Expect.answer(state.name + ": a byte more", state.size() + 1, () -> x.feed(0, 1));
            answers.add(Integer.toString(x.judge()));
        }
        return answers;
    }

    private static void see(FileJudge x, List<String> answers) {
        answers.add(Expect.told(x::broken));
        answers.add(Expect.told(() -> x.many(0)));
        answers.add(Expect.told(() -> x.many(1)));
        for (int what = 0; what < 7; what++) {
            int part = what;
            answers.add(Expect.told(() -> x.segment(0, part)));
            answers.add(Expect.told(() -> x.section(4, part)));
        }
        answers.add(Expect.told(() -> x.letter(1, 0)));
        answers.add(Expect.told(() -> x.symbols(3)));
        for (int what = 0; what < 5; what++) {
            int part = what;
            answers.add(Expect.told(() -> x.symbol(3, 2, part)));
        }
        answers.add(Expect.told(() -> x.find(0x1000)));
    }

    /** Where two refusals are due: the argument, then the state, then what is not there, as the document names them. */
    private static void theFirstRefusalCounts() {
        FileJudge full = Sample.full().size(640).fed();
        Expect.noArgument("n 9 and no room", () -> full.feed(0, 9));
        Expect.noArgument("n 0 and no room", () -> full.feed(0, 0));
        for (FileJudge x : new FileJudge[] {new FileJudge(), full, Sample.full().head(Sample.ENTRY, 0).judged()}) {
            Expect.noArgument("no such what, and not good", () -> x.many(2));
            Expect.noArgument("no such what, not good, not there", () -> x.segment(9, 7));
            Expect.noArgument("no such what, not good, not there", () -> x.section(-1, -1));
            Expect.noArgument("no such what, not good, not there", () -> x.symbol(9, 9, 5));
            Expect.noState("not good, and not there", () -> x.segment(9, 6));
            Expect.noState("not good, and not there", () -> x.section(-1, 0));
            Expect.noState("not good, and not there", () -> x.letter(9, 0));
            Expect.noState("not good, and not there", () -> x.letter(1, 99));
            Expect.noState("not good, and not there", () -> x.symbols(-1));
            Expect.noState("not good, and not there", () -> x.symbol(3, 9, 4));
        }
        FileJudge good = Sample.full().judged();
        Expect.noArgument("no such what, and not there", () -> good.segment(1, 7));
        Expect.noArgument("no such what, and not there", () -> good.section(6, 7));
        Expect.noArgument("no such what, and not there", () -> good.symbol(6, 0, 5));
        Expect.noArgument("no such what, and not there", () -> good.symbol(3, 3, -1));
    }
}
