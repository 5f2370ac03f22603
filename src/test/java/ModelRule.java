import java.util.ArrayList;
import java.util.Arrays;
import java.util.List;
import java.util.regex.Matcher;
import java.util.regex.Pattern;

/** A rule read the plain way: the text is cut into tokens, and these into a tree. */
final class ModelRule {
    static final class Fault extends RuntimeException {
        final int place;

        Fault(int place) {
            super(null, null, false, false);
            this.place = place;
        }
    }

    interface E {
        int value(int[] names);
    }

    private static final List<String> KEYS = Arrays.asList("bond limit rate reserve div dormant".split(" "));
    private static final List<String> NAMES =
        Arrays.asList("work street saved owed joined late kind sum week cash".split(" "));
    private static final Pattern TOKEN = Pattern.compile(" *([a-z]+|[0-9]+|[-()+*/%=<>]|\\z|.)", Pattern.DOTALL);

    int key;
    E value;
    E condition = names -> 1;

    private final List<String> tokens = new ArrayList<>();
    private final List<Integer> places = new ArrayList<>();
    private int at = 0;

    private ModelRule(String text) {
        Matcher m = TOKEN.matcher(text);
        int from = 0;
        while (tokens.isEmpty() || !tokens.get(tokens.size() - 1).isEmpty()) {
            if (!m.find(from)) {
                throw new IllegalStateException(text);
            }
            tokens.add(m.group(1));
            places.add(m.start(1));
            from = m.end(1);
        }
    }

    static ModelRule read(String text) {
        ModelRule r = new ModelRule(text);
        r.key = KEYS.indexOf(r.tokens.get(0));
        r.need(r.key >= 0);
        r.at++;
        r.value = r.either(0);
        if (r.sees("if")) {
            r.at++;
            r.condition = r.either(0);
        }
        r.need(r.sees(""));
        return r;
    }

    private boolean sees(String token) {
        return tokens.get(at).equals(token);
    }

    private void need(boolean so) {
        if (!so) {
            throw new Fault(places.get(at));
        }
    }

    private static int truth(boolean so) {
        return so ? 1 : 0;
    }

    private E either(int open) {
        E left = both(open);
        while (sees("or")) {
            at++;
            E a = left;
            E b = both(open);
            left = n -> truth(a.value(n) != 0 | b.value(n) != 0);
        }
        return left;
    }

    private E both(int open) {
        E left = not(open);
        while (sees("and")) {
            at++;
            E a = left;
            E b = not(open);
            left = n -> truth(a.value(n) != 0 & b.value(n) != 0);
        }
        return left;
    }

    private E not(int open) {
        if (sees("not")) {
            need(open < 6);
            at++;
            E a = not(open + 1);
            return n -> truth(a.value(n) == 0);
        }
        E a = sum(open);
        if (sees("=")) {
            at++;
            E b = sum(open);
            return n -> truth(a.value(n) == b.value(n));
        }
        if (sees("<")) {
            at++;
            E b = sum(open);
            return n -> truth(a.value(n) < b.value(n));
        }
        if (sees(">")) {
            at++;
            E b = sum(open);
            return n -> truth(a.value(n) > b.value(n));
        }
        return a;
    }

    private E sum(int open) {
        E left = term(open);
        while (sees("+") || sees("-")) {
            boolean plus = sees("+");
            at++;
            E a = left;
            E b = term(open);
            left = n -> plus ? a.value(n) + b.value(n) : a.value(n) - b.value(n);
        }
        return left;
    }

    private E term(int open) {
        E left = one(open);
        while (sees("*") || sees("/") || sees("%")) {
            String sign = tokens.get(at);
            at++;
            E a = left;
            E b = one(open);
            left = n -> work(sign, a.value(n), b.value(n));
        }
        return left;
    }

    private static int work(String sign, int a, int b) {
        if (sign.equals("*")) {
            return (int) ((long) a * b);
        }
        if (b == 0) {
            return 0;
        }
        return (int) (sign.equals("/") ? (long) a / b : (long) a % b);
    }

    private E one(int open) {
        String token = tokens.get(at);
        if (token.matches("[0-9]{1,5}")) {
            at++;
            int number = Integer.parseInt(token);
            return n -> number;
        }
        int name = NAMES.indexOf(token);
        if (name >= 0) {
            at++;
            return n -> n[name];
        }
        need(open < 6 && (sees("-") || sees("(")));
        at++;
        if (token.equals("-")) {
            E a = one(open + 1);
            return n -> -a.value(n);
        }
        E a = either(open + 1);
        need(sees(")"));
        at++;
        return a;
    }
}
