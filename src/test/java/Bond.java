import java.util.ArrayList;
import java.util.List;

/**
 * An object of CommonBond that remembers its calls, 512 of them at most: more are not promised. What it is can be
 * looked at by twins, which get the same calls, so that looking costs the object itself none.
 */
final class Bond {
    static final int MOST_CALLS = 512;

    private record Call(String name, int[] args) {
    }

    private final CommonBond x = new CommonBond();
    private final List<Call> calls = new ArrayList<>();

    long call(String name, int... args) {
        if (calls.size() >= MOST_CALLS) {
            throw new IllegalStateException("more than " + MOST_CALLS + " calls of one object");
        }
        calls.add(new Call(name, args));
        return Calls.call(x, name, args);
    }

    int size() {
        return calls.size();
    }

    Twins twins() {
        return new Twins(List.copyOf(calls));
    }

    /** Answers what the object would answer; a new twin comes as often as one has used up its calls. */
    static final class Twins {
        private final List<Call> calls;
        private CommonBond twin = null;
        private int used = 0;

        private Twins(List<Call> calls) {
            if (calls.size() >= MOST_CALLS) {
                throw new IllegalStateException("no call is left for a look");
            }
            this.calls = calls;
        }

        /** What is asked next is asked of a new twin. */
        void fresh() {
            twin = null;
        }

        long ask(String name, int... args) {
            if (twin == null || used == MOST_CALLS) {
                twin = new CommonBond();
                for (Call c : calls) {
                    Calls.call(twin, c.name, c.args);
                }
                used = calls.size();
            }
            used++;
            return Calls.call(twin, name, args);
        }
    }

    int member(int work, int street) {
        return (int) call("member", work, street);
    }

    int died(int member, int week) {
        return (int) call("died", member, week);
    }

    int save(int member, int n) {
        return (int) call("save", member, n);
    }

    int draw(int member, int n) {
        return (int) call("draw", member, n);
    }

    int found(int member, int week, int n) {
        return (int) call("found", member, week, n);
    }

    int saved(int member, int week, int as) {
        return (int) call("saved", member, week, as);
    }

    int look(int member, int what) {
        return (int) call("look", member, what);
    }

    int ask(int of, int sum, int weeks) {
        return (int) call("ask", of, sum, weeks);
    }

    int back(int ask, int member, int pledge) {
        return (int) call("back", ask, member, pledge);
    }

    int askOf(int ask, int what) {
        return (int) call("askOf", ask, what);
    }

    int answer(int ask) {
        return (int) call("answer", ask);
    }

    int pay(int loan, int n) {
        return (int) call("pay", loan, n);
    }

    int loanOf(int loan, int what) {
        return (int) call("loanOf", loan, what);
    }

    int dues(int loan, int week) {
        return (int) call("dues", loan, week);
    }

    int taken(int loan, int k) {
        return (int) call("taken", loan, k);
    }

    int alike(int a, int b) {
        return (int) call("alike", a, b);
    }

    int feed(int bytes, int n) {
        return (int) call("feed", bytes, n);
    }

    int wipe() {
        return (int) call("wipe");
    }

    int rule(int from, int to) {
        return (int) call("rule", from, to);
    }

    int says(int key, int who) {
        return (int) call("says", key, who);
    }

    int why(int key, int who) {
        return (int) call("why", key, who);
    }

    int run(int n) {
        return (int) call("run", n);
    }

    int cost(int n) {
        return (int) call("cost", n);
    }

    long year(int year, int what) {
        return call("year", year, what);
    }

    long got(int year, int member, int what) {
        return call("got", year, member, what);
    }

    int voided() {
        return (int) call("voided");
    }

    int runs(int run, int w, int n) {
        return (int) call("runs", run, w, n);
    }

    int calm(int run) {
        return (int) call("calm", run);
    }

    int best(int asks) {
        return (int) call("best", asks);
    }

    int judge() {
        return (int) call("judge");
    }

    int fall(int member, int what) {
        return (int) call("fall", member, what);
    }

    int duty(int member) {
        return (int) call("duty", member);
    }

    int counted(int n) {
        return (int) call("counted", n);
    }

    int suspects() {
        return (int) call("suspects");
    }

    int book(int member, int week, int much) {
        return (int) call("book", member, week, much);
    }

    int wrong() {
        return (int) call("wrong");
    }

    int count(int what) {
        return (int) call("count", what);
    }

    int image() {
        return (int) call("image");
    }

    int undo() {
        return (int) call("undo");
    }

    int lay(int n) {
        return (int) call("lay", n);
    }

    int set(int i, int v) {
        return (int) call("set", i, v);
    }

    int tear() {
        return (int) call("tear");
    }

    int row(int i) {
        return (int) call("row", i);
    }

    int copy(int i, int j, int n) {
        return (int) call("copy", i, j, n);
    }

    int status(int by) {
        return (int) call("status", by);
    }
}
