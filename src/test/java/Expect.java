import java.util.NoSuchElementException;

/** Counts what is not as it is due, prints it, and ends a test with exit code 1 if there was anything. */
final class Expect {
    interface Call {
        long run();
    }

    private static int looked = 0;
    private static int wrong = 0;

    private Expect() {
    }

    static void answer(String what, long due, Call call) {
        same(what, Long.toString(due), told(call));
    }

    static void noArgument(String what, Call call) {
        same(what, "throws.IllegalArgumentException", told(call));
    }

    static void noState(String what, Call call) {
        same(what, "throws.IllegalStateException", told(call));
    }

    static void noElement(String what, Call call) {
        same(what, "throws.NoSuchElementException", told(call));
    }

    /** What a call answers or throws; only the document's own three classes are known here, not ones below them. */
    static String told(Call call) {
        try {
            return Long.toString(call.run());
        } catch (RuntimeException e) {
            Class<?> kind = e.getClass();
            boolean known = kind == IllegalArgumentException.class || kind == IllegalStateException.class
                || kind == NoSuchElementException.class;
            return (known ? "throws." : "throws by itself ") + kind.getSimpleName();
        }
    }

    static void same(String what, String due, String got) {
        looked++;
        if (!due.equals(got)) {
            wrong++;
            System.out.println(what + ": answered " + got + ", due is " + due);
        }
    }

    static void end() {
        System.out.println(looked + " answers looked at, " + wrong + " not as due");
        if (wrong != 0 || looked == 0) {
            System.exit(1);
        }
    }
}
