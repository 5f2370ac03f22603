import java.util.Arrays;
import java.util.function.LongSupplier;

/** What the tests share: compares answers, feeds texts, and ends the run with the right exit code. */
final class Check {
    private final String name;
    private int done = 0;
    private int wrong = 0;

    Check(String name) {
        this.name = name;
    }

    void due(String what, long got, long want) {
        done++;
        if (got != want) {
            wrong++;
            System.out.println(name + ": " + what + " answered " + got + ", due is " + want);
        }
    }

    void so(String what, boolean is) {
        due(what, is ? 1 : 0, 1);
    }

    /** A call that is refused: its answer is due, status() of just that refusal is one more, and all else stays. */
    void refused(String what, Bond x, LongSupplier call, long want, int by) {
        long[] before = Look.all(x);
        int[] status = Look.status(x);
        due(what, call.getAsLong(), want);
        int[] then = Look.status(x);
        for (int i = 0; i < status.length; i++) {
            due(what + ": status(" + -(i + 2) + ")", then[i] - status[i], -(i + 2) == by ? 1 : 0);
        }
        so(what + " changes nothing", Arrays.equals(before, Look.all(x)));
    }

    static void feed(Bond x, String text) {
        for (int i = 0; i < text.length();) {
            int n = Math.min(4, text.length() - i);
            int bytes = 0;
            for (int j = 0; j < n; j++) {
                bytes = bytes << 8 | text.charAt(i + j);
            }
            x.feed(bytes, n);
            i += n;
        }
    }

    /** The answer of rule() to a text on an empty tape; the tape is empty then. */
    static int rule(Bond x, String text, int from, int to) {
        x.wipe();
        feed(x, text);
        int answer = x.rule(from, to);
        x.wipe();
        return answer;
    }

    static int rule(Bond x, String text) {
        return rule(x, text, 0, 1000);
    }

    void end() {
        System.out.println(name + ": " + done + " looked at, " + wrong + " wrong");
        if (wrong != 0) {
            System.exit(1);
        }
    }
}
