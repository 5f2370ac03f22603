import java.util.ArrayList;
import java.util.Arrays;
import java.util.List;

/**
 * Sentences of the document, each with calls on a new object of which one answers otherwise if the sentence does
 * not hold. The calls are written as lines: "save 0 5 = 5" (its answer is due), "save 0 0 ! NO" (it is refused by NO,
 * and changes nothing but status), "run 3" (it is not refused), "16 x member 1 1" (so often), "rule 'bond 1' 0 9 = 0"
 * (the text alone is on the tape); several on a line stand behind one another with a ; between.
 */
final class Sentences {
    private static final List<String> REFUSALS =
        Arrays.asList("", "", "MISSING", "BEYOND", "BELOW", "KIND", "COPY", "NO", "FULL");
    // Those that tell 0 as they are refused, and status() of it.
    private static final List<String> TELL_ZERO = Arrays.asList("died", "saved", "look", "askOf", "dues", "says",
        "year", "got", "runs", "counted", "count", "set", "row");

    private final Check check;
    private String sentence = "";
    private Bond x = null;
    private int[] refused = null;

    Sentences(String name) {
        check = new Check(name);
    }

    void end() {
        check.end();
    }

    void of(String itsSentence, String... lines) {
        sentence = itsSentence;
        x = new Bond();
        refused = new int[REFUSALS.size()];
        for (String line : lines) {
            for (String call : split(line)) {
                if (!call.isBlank()) {
                    one(call.trim());
                }
            }
        }
        int[] status = Look.status(x);
        for (int i = 2; i < refused.length; i++) {
            check.due(sentence + ": calls refused by " + REFUSALS.get(i), status[i - 2], refused[i]);
        }
    }

    /** Cuts at each ; that stands in no text. */
    private static List<String> split(String line) {
        List<String> calls = new ArrayList<>();
        boolean text = false;
        int from = 0;
        for (int i = 0; i <= line.length(); i++) {
            text ^= i < line.length() && line.charAt(i) == '\'';
            if (i == line.length() || line.charAt(i) == ';' && !text) {
                calls.add(line.substring(from, i));
                from = i + 1;
            }
        }
        return calls;
    }

    private void one(String call) {
        if (call.matches("\\d+ x .*")) {
            int often = Integer.parseInt(call.substring(0, call.indexOf(' ')));
            for (int i = 0; i < often; i++) {
                one(call.substring(call.indexOf(" x ") + 3));
            }
            return;
        }
        String plain = call;
        if (call.indexOf('\'') >= 0) {
            int end = call.lastIndexOf('\'');
            x.wipe();
            Check.feed(x, call.substring(call.indexOf('\'') + 1, end));
            plain = call.substring(0, call.indexOf('\'')) + call.substring(end + 1);
        }
        List<String> words = new ArrayList<>(Arrays.asList(plain.trim().split(" +")));
        String name = words.remove(0);
        String sign = "";
        String due = "";
        if (words.size() > 1 && words.get(words.size() - 2).matches("[=!]")) {
            due = words.remove(words.size() - 1);
            sign = words.remove(words.size() - 1);
        }
        int[] args = words.stream().mapToInt(Sentences::number).toArray();
        made(sentence + ": " + call, name, args, sign, due);
    }

    private void made(String what, String name, int[] args, String sign, String due) {
        if (sign.equals("!")) {
            int by = REFUSALS.indexOf(due);
            refused[by]++;
            check.refused(what, x, () -> x.call(name, args), TELL_ZERO.contains(name) ? 0 : -by, -by);
        } else {
            long answer = x.call(name, args);
            if (sign.equals("=")) {
                check.due(what, answer, number(due));
            }
        }
    }

    private static int number(String word) {
        switch (word) {
            case "MAX": return Integer.MAX_VALUE;
            case "MIN": return Integer.MIN_VALUE;
            case "NONE": return -1;
            default: return Integer.parseInt(word);
        }
    }
}
