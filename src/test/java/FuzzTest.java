import java.util.ArrayList;
import java.util.Arrays;
import java.util.List;

/** Many runs of up to 512 calls, each call on the class and on the model; the answers must be like. */
public final class FuzzTest {
    private static final int RUNS = 2500;
    // So many are left for what is asked of twins at the end.
    private static final int MOST_CALLS = Bond.MOST_CALLS - 32;
    private static final String[] NAMES = ("member member died save save save save save draw draw found found saved look "
        + "look ask ask ask ask back back askOf askOf answer answer pay pay pay pay loanOf dues taken alike says why "
        + "cost year got got voided runs runs calm best best judge judge fall fall duty duty counted suspects book wrong "
        + "count count lay set set row copy status text text text tear image undo").split(" ");
    private static final String[] PIECES = ("bond limit rate reserve div dormant work street saved owed joined late "
        + "kind sum week cash if or and not ( ) + - * / % = < > 0 1 7 99999 100000 00001 x ; bonds").split(" ");

    private final Dice dice;
    private final Bond x = new Bond();
    private final Model model = new Model();
    private final List<String> told = new ArrayList<>();
    private final int calls;
    private final int longRun;
    // Every other run has members who stand for one another, and none whose books go below 0.
    private final boolean entangled;
    // Every fifth one begins with as much of all as there may be.
    private final boolean full;
    private boolean like = true;
    private Bond.Twins twins = null;

    private FuzzTest(long seed) {
        dice = new Dice(seed);
        calls = dice.from(0, 3) > 0 ? MOST_CALLS : dice.from(20, MOST_CALLS);
        longRun = dice.from(1, 60);
        entangled = seed % 2 == 0;
        full = seed % 5 == 0;
    }

    public static void main(String[] args) {
        int runs = args.length > 0 ? Integer.parseInt(args[0]) : RUNS;
        long first = args.length > 1 ? Long.parseLong(args[1]) : 1;
        for (long seed = first; seed < first + runs; seed++) {
            FuzzTest t = new FuzzTest(seed);
            t.go();
            if (!t.like) {
                System.out.println("FuzzTest: run " + seed + " is not like the model");
                System.exit(1);
            }
        }
        System.out.println("FuzzTest: " + runs + " runs, all like the model");
    }

    private void go() {
        if (full) {
            fill();
        }
        int members = dice.from(1, entangled ? 12 : 6);
        for (int i = 0; i < members; i++) {
            same("member", dice.from(0, 9), dice.from(0, 9));
        }
        while (x.size() < calls && like) {
            int kind = dice.from(0, 19);
            if (kind == 0) {
                same("run", dice.from(0, 9) == 0 ? dice.from(-2, 70) : dice.from(1, longRun));
            } else if (kind == 1 && dice.from(0, 3) == 0) {
                lendTo();
            } else if (kind < 4 && entangled) {
                entangle();
            } else if (kind == 4 && dice.from(0, 3) == 0) {
                plan();
            } else {
                one(NAMES[dice.from(0, NAMES.length - 1)]);
            }
        }
        sweep();
    }

    /** What the model answers; it costs the object no call. */
    private int is(String name, int... a) {
        return (int) model.call(name, a);
    }

    private void same(String name, int... a) {
        if (!like || x.size() >= calls) {
            return;
        }
        long want = model.call(name, a);
        long got = x.call(name, a);
        told.add(name + Arrays.toString(a) + " -> " + want);
        compare(got, want);
    }

    private void compare(long got, long want) {
        if (got != want) {
            like = false;
            for (String line : told) {
                System.out.println(line);
            }
            System.out.println("the class answered " + got + " to the last one");
        }
    }

    /** Asked of a twin: it is no call of the object. */
    private void twin(String name, int... a) {
        if (like) {
            long want = model.call(name, a);
            told.add(name + Arrays.toString(a) + " of a twin -> " + want);
            compare(twins.ask(name, a), want);
            told.remove(told.size() - 1);
        }
    }

    /** A number that is mostly in place, now and then at an edge or far out. */
    private int near(int low, int high) {
        int way = dice.from(0, 39);
        switch (way) {
            case 0: return low - 1;
            case 1: return high + 1;
            case 2: return Integer.MAX_VALUE;
            case 3: return Integer.MIN_VALUE;
            case 4: return low;
            case 5: return high;
            default: return high < low ? low : dice.from(low, high);
        }
    }

    private int member() {
        return near(0, is("count", 1) - 1);
    }

    private int ask() {
        return dice.from(0, 2) > 0 ? near(Math.max(0, is("count", 5) - 4), is("count", 5) - 1) : near(0, is("count", 5) - 1);
    }

    private int loan() {
        return near(0, is("count", 6) - 1);
    }

    private int week() {
        return near(0, is("count", 0));
    }

    private int much() {
        switch (dice.from(0, 4)) {
            case 0: return near(1, 99999);
            case 1: return near(1, 9999);
            default: return near(1, 3000);
        }
    }

    private void lendTo() {
        same("save", member(), much());
        same("ask", 10 * member() + dice.from(0, 5), dice.from(1, 3000), dice.from(1, 12));
        same("back", is("count", 5) - 1, member(), dice.from(1, 3000));
        same("back", is("count", 5) - 1, member(), dice.from(1, 3000));
        same("answer", is("count", 5) - 1);
    }

    /** Asks that wait, and runs that take about what there is. */
    private void plan() {
        int asks = dice.from(1, 5);
        int cash = is("count", 3);
        for (int i = 0; i < asks; i++) {
            same("ask", 10 * dice.from(0, is("count", 1) - 1) + dice.from(0, 2), dice.from(1, Math.max(1, cash / 2)),
                dice.from(1, 9));
        }
        for (int i = dice.from(0, 3); i > 0; i--) {
            same("runs", dice.from(0, 3), dice.from(0, 7), dice.from(0, Math.min(99999, cash)));
        }
        int first = Math.max(0, is("count", 5) - 8);
        same("best", ((1 << is("count", 5) - first) - 1) << first);
        judge();
    }

    private void fill() {
        for (int i = 0; i < 17; i++) {
            same("member", dice.from(0, 9), dice.from(0, 9));
            same("save", i, dice.from(3000, 9000));
        }
        for (int i = 0; i < 25; i++) {
            int member = dice.from(0, 15);
            same("ask", 10 * member + dice.from(0, 5), dice.from(1, 1250), dice.from(1, 60));
            for (int j = 1; j < 6; j++) {
                same("back", i, (member + j) % 16, dice.from(300, 2000));
            }
        }
        int left = dice.from(0, 9);
        for (int i = left; i < 24; i++) {
            same("answer", i);
        }
        for (int i = dice.from(0, 12); i > 0; i--) {
            text();
        }
        for (int i = 0; i < 21; i++) {
            book();
            counted();
            same("best", dice.from(0, (1 << 24) - 1) & dice.from(0, (1 << 24) - 1) & dice.from(0, (1 << 24) - 1));
        }
        same("image");
    }

    /** A member gets a loan on nearly all it saved, or one that another stands for with nearly all of its own. */
    private void entangle() {
        int member = dice.from(0, is("count", 1) - 1);
        int other = dice.from(0, is("count", 1) - 1);
        int week = is("count", 0);
        if (is("saved", member, week, week) < 300) {
            same("save", member, dice.from(1, 900));
        }
        int secured = dice.from(0, 2);
        int free = is("saved", secured > 0 ? member : other, week, week) - (secured > 0 ? is("look", member, 4) : 0);
        int sum = Math.max(1, Math.min(99999, free - dice.from(0, 9)));
        same("ask", 10 * member + (secured > 0 ? 2 : dice.from(0, 4)), sum, dice.from(1, 30));
        same("back", is("count", 5) - 1, other, Math.max(1, Math.min(99999, free)));
        same("answer", is("count", 5) - 1);
        same("fall", member, dice.from(0, 2));
    }

    private void one(String name) {
        switch (name) {
            case "member": same(name, near(0, 9), near(0, 9)); break;
            case "died":
                if (dice.from(0, 4) == 0) {
                    same(name, member(), week());
                }
                break;
            case "save": same(name, member(), much()); break;
            case "draw": same(name, member(), much()); break;
            case "found": found(); break;
            case "saved": same(name, member(), week(), week()); break;
            case "look": same(name, member(), near(0, 9)); break;
            case "ask": same(name, near(0, 10 * is("count", 1) - 1), much(), near(1, dice.from(0, 1) == 0 ? 60 : 6)); break;
            case "back": same(name, ask(), member(), much()); break;
            case "askOf": same(name, ask(), near(0, 9)); break;
            case "answer": same(name, ask()); break;
            case "pay": pay(); break;
            case "loanOf": same(name, loan(), near(0, 10)); break;
            case "dues": same(name, loan(), dice.from(0, 3) == 0 ? near(0, 1000) : near(0, is("count", 0) + 20)); break;
            case "taken": same(name, loan(), near(0, 5)); break;
            case "alike": same(name, ask(), ask()); break;
            case "says": case "why": same(name, near(0, 5), who()); break;
            case "cost": same(name, dice.from(0, 4) == 0 ? much() : near(1, 20)); break;
            default: two(name);
        }
    }

    private void two(String name) {
        switch (name) {
            case "year": same(name, near(0, is("count", 10) - 1), near(0, 6)); break;
            case "got": same(name, near(0, is("count", 10) - 1), member(), near(0, 5)); break;
            case "runs": same(name, near(0, 3), near(0, 7), dice.from(0, 3) == 0 ? near(0, 99999) : near(0, 800)); break;
            case "calm": same(name, near(0, 3)); break;
            case "best": best(); break;
            case "judge": judge(); break;
            case "fall": same(name, member(), near(0, 2)); break;
            case "duty": same(name, member()); break;
            case "counted": counted(); break;
            case "book": book(); break;
            case "count": same(name, near(0, 15)); break;
            case "lay": same(name, near(0, 12)); break;
            case "set": same(name, near(0, 11), near(0, 23)); break;
            case "row": same(name, near(0, 11)); break;
            case "copy": same(name, near(0, 8), near(0, 8), near(0, 5)); break;
            case "status": same(name, near(-8, -2)); break;
            case "text": text(); break;
            case "image": case "undo": case "voided": case "tear":
                if (dice.from(0, 3) == 0) {
                    same(name);
                }
                break;
            default: same(name);
        }
    }

    private void found() {
        int much = dice.from(0, 1) == 0 || entangled ? much() : -much();
        same("found", member(), near(0, is("count", 0) - 1), much);
    }

    private int who() {
        switch (dice.from(0, 2)) {
            case 0: return near(-1, 15);
            case 1: return near(100, 100 + is("count", 5) - 1);
            default: return member();
        }
    }

    private void pay() {
        int loan = loan();
        if (loan >= 0 && loan < is("count", 6) && dice.from(0, 2) > 0) {
            int owed = is("loanOf", loan, 5);
            same("pay", loan, dice.from(0, 4) == 0 ? owed : near(1, Math.max(1, owed)));
        } else {
            same("pay", loan, much());
        }
    }

    private void best() {
        int bits = 0;
        int size = is("count", 5);
        for (int i = 0; i < 8 && size > 0; i++) {
            bits |= 1 << dice.from(0, size - 1);
        }
        same("best", dice.from(0, 4) == 0 ? near(0, (1 << size) - 1) : bits);
    }

    private void judge() {
        int size = dice.from(0, 3);
        same("lay", size);
        for (int i = 0; i < size; i++) {
            same("set", i, ask());
        }
        same("judge");
    }

    private void counted() {
        int cash = is("count", 3);
        same("counted", dice.from(0, 1) == 0 ? cash : near(0, 9999999));
    }

    private void book() {
        int member = member();
        int week = week();
        int much = near(-9999999, 9999999);
        if (member >= 0 && member < is("count", 1) && week >= 0 && week <= is("count", 0) && dice.from(0, 1) == 0) {
            much = is("saved", member, week, is("count", 0));
        }
        same("book", member, week, much);
    }

    private void text() {
        if (dice.from(0, 9) > 0) {
            same("wipe");
        }
        StringBuilder text = new StringBuilder(PIECES[dice.from(0, 5)]).append(' ');
        if (dice.from(0, 3) == 0) {
            for (int i = dice.from(0, 25); i >= 0; i--) {
                text.append(PIECES[dice.from(0, PIECES.length - 1)]).append(dice.from(0, 2) > 0 ? " " : "");
            }
        } else {
            expression(text, 0);
            if (dice.from(0, 1) == 0) {
                expression(text.append(" if "), 0);
            }
        }
        if (dice.from(0, 3) == 0) {
            text.setCharAt(dice.from(0, text.length() - 1), (char) dice.from(0, 255));
        }
        for (int i = 0; i < text.length();) {
            int n = Math.min(dice.from(1, 4), text.length() - i);
            int bytes = dice.from(0, 255);
            for (int j = 0; j < n; j++) {
                bytes = bytes << 8 | text.charAt(i + j);
            }
            same("feed", bytes, n);
            i += n;
        }
        if (dice.from(0, 9) == 0) {
            same("feed", near(0, 99999999), near(0, 4));
        }
        same("rule", dice.from(0, 4) == 0 ? near(0, 1000) : near(0, 5), near(1, 1000));
    }

    private void expression(StringBuilder text, int depth) {
        int way = dice.from(0, 11);
        if (depth > 4 || way < 3) {
            text.append(dice.from(0, 1) == 0 ? "" + dice.from(0, dice.from(0, 1) == 0 ? 9 : 9999)
                : PIECES[dice.from(6, 15)]);
        } else if (way == 3) {
            expression(text.append("not "), depth + 1);
        } else if (way == 4) {
            expression(text.append("- "), depth + 1);
        } else if (way == 5) {
            expression(text.append('('), depth + 1);
            text.append(')');
        } else {
            expression(text, depth + 1);
            text.append(' ').append(PIECES[new int[] {17, 18, 22, 23, 24, 25, 26, 27, 28, 29}[dice.from(0, 9)]]).append(' ');
            expression(text, depth + 1);
        }
    }

    /** At the end all that can be asked. */
    private void sweep() {
        if (!like) {
            return;
        }
        twins = x.twins();
        for (int i = 0; i < 16; i++) {
            twin("count", i);
        }
        for (int i = -8; i <= -2; i++) {
            twin("status", i);
        }
        for (int m = 0; m < is("count", 1); m++) {
            for (int what = 0; what < 10; what++) {
                twin("look", m, what);
            }
            for (int what = 0; what < 3; what++) {
                twin("fall", m, what);
            }
            for (int y = 0; y < is("count", 10); y++) {
                for (int what = 0; what < 6; what++) {
                    twin("got", y, m, what);
                }
            }
        }
        for (int a = 0; a < is("count", 5); a++) {
            for (int what = 0; what < 10; what++) {
                twin("askOf", a, what);
            }
        }
        for (int l = 0; l < is("count", 6); l++) {
            for (int what = 0; what < 11; what++) {
                twin("loanOf", l, what);
            }
        }
        for (int y = 0; y < is("count", 10); y++) {
            for (int what = 0; what < 7; what++) {
                twin("year", y, what);
            }
        }
    }
}
