/** Promises 28 to 32: runs, sets of asks that last through them, and falls. */
public final class RunsTest {
    private static final Check C = new Check("RunsTest");

    public static void main(String[] args) {
        runs();
        calm();
        lasts();
        lastsWithLoans();
        best();
        bestOfLike();
        mayNotBe();
        judge();
        fall();
        fallInRounds();
        C.end();
    }

    private static Bond two(int saved) {
        Bond x = new Bond();
        x.member(1, 1);
        x.member(2, 2);
        x.save(0, saved);
        return x;
    }

    private static void runs() {
        Bond x = two(100);
        for (int run = 0; run < 4; run++) {
            for (int w = 0; w < 8; w++) {
                C.due("0 at first", x.runs(run, w, 10 * run + w), 0);
            }
        }
        for (int run = 0; run < 4; run++) {
            for (int w = 0; w < 8; w++) {
                C.due("what it was", x.runs(run, w, 99999), 10 * run + w);
            }
        }
        C.due("the most", x.runs(3, 7, 0), 99999);
        C.refused("run 4", x, () -> x.runs(4, 0, 1), 0, -3);
        C.refused("run -1", x, () -> x.runs(-1, 0, 1), 0, -3);
        C.refused("week 8", x, () -> x.runs(0, 8, 1), 0, -3);
        C.refused("week -1", x, () -> x.runs(0, -1, 1), 0, -3);
        C.refused("-1", x, () -> x.runs(0, 0, -1), 0, -7);
        C.refused("100000", x, () -> x.runs(0, 0, 100000), 0, -7);
        C.refused("BEYOND ahead of NO", x, () -> x.runs(4, 0, -1), 0, -3);
        Bond y = two(100);
        y.runs(2, 0, -1);
        C.due("a refused one is not told", y.calm(2), 0);
    }

    private static void calm() {
        Bond x = two(100);
        C.due("not told", x.calm(0), 0);
        x.runs(0, 3, 0);
        C.due("told, of nothing", x.calm(0), 1);
        C.due("no longer", x.calm(0), 0);
        x.runs(0, 3, 7);
        x.runs(1, 3, 8);
        C.due("told", x.calm(0), 1);
        C.due("another one stays", x.runs(1, 3, 9), 8);
        C.due("all is 0", x.runs(0, 3, 1), 0);
        C.refused("run 4", x, () -> x.calm(4), -3, -3);
        C.refused("run -1", x, () -> x.calm(-1), -3, -3);
    }

    /** Whether the ask alone lasts. */
    private static long alone(Bond x, int ask) {
        x.lay(1);
        x.set(0, ask);
        return x.judge();
    }

    private static void lasts() {
        Bond x = two(1000);
        x.ask(0, 1000, 4);
        x.ask(0, 1001, 4);
        x.ask(3, 600, 3);
        x.back(2, 1, 600);
        x.ask(4, 600, 3);
        C.due("all the cash", alone(x, 0), 1);
        C.due("1 more", alone(x, 1), 0);
        C.due("without a run", x.best(1), 1);
        // INTEREST 4: dues of 251 from the next week on.
        x.runs(0, 0, 1);
        C.due("nothing comes in the open week", alone(x, 0), 0);
        x.runs(0, 0, 0);
        x.runs(0, 1, 251);
        C.due("the first dues", alone(x, 0), 1);
        x.runs(0, 1, 252);
        C.due("1 more than these", alone(x, 0), 0);
        x.runs(0, 1, 0);
        x.runs(0, 4, 1004);
        C.due("all dues", alone(x, 0), 1);
        x.runs(0, 5, 1);
        C.due("nothing comes behind the last", alone(x, 0), 0);
        x.runs(0, 4, 0);
        x.runs(0, 5, 0);
        x.runs(0, 7, 1005);
        C.due("up to the eighth", alone(x, 0), 0);
        x.calm(0);
        x.runs(3, 6, 1005);
        C.due("through each told run", alone(x, 0), 0);
        x.runs(2, 0, 0);
        C.due("a run of nothing doesn't help", alone(x, 0), 0);
        x.calm(3);
        C.due("calm", alone(x, 0), 1);
        bridge();
    }

    private static void bridge() {
        Bond x = two(1000);
        x.save(1, 1000);
        x.ask(4, 2000, 3);
        x.back(0, 1, 1000);
        x.ask(5, 400, 3);
        x.member(3, 3);
        x.save(2, 1000);
        x.back(0, 2, 1000);
        x.cost(1000);
        // A bridge pays in its third week, 2012 in all.
        x.runs(0, 3, 2012);
        C.due("in its last week", alone(x, 0), 1);
        x.runs(0, 2, 1);
        C.due("not ahead of it", alone(x, 0), 0);
        x.runs(0, 2, 0);
        x.runs(0, 3, 2013);
        C.due("not more", alone(x, 0), 0);
        x.cost(1600);
        x.calm(0);
        // Interest 0 of the old one: nothing comes but in the last week.
        x.runs(0, 3, 400);
        C.due("the old one, in its last week", alone(x, 1), 1);
        x.runs(0, 2, 1);
        C.due("nothing ahead of it", alone(x, 1), 0);
    }

    private static void lastsWithLoans() {
        Bond x = two(1000);
        x.ask(10, 800, 4);
        x.answer(0);
        x.run(1);
        x.ask(0, 200, 1);
        x.runs(0, 0, 200);
        // 803 by 4: 200 in each week, 203 in the last one; the open week is the first of these.
        C.due("dues of the open week", alone(x, 1), 1);
        x.runs(0, 0, 201);
        C.due("not more", alone(x, 1), 0);
        x.runs(0, 0, 0);
        x.runs(0, 3, 1003);
        C.due("all of them", alone(x, 1), 1);
        x.runs(0, 3, 1004);
        C.due("not more than all", alone(x, 1), 0);
        x.pay(0, 803);
        x.runs(0, 3, 1003);
        C.due("of open ones alone", alone(x, 1), 1);
        x.runs(0, 3, 1004);
        C.due("a paid one brings nothing", alone(x, 1), 0);
        Bond y = two(1000);
        y.ask(10, 800, 20);
        y.answer(0);
        y.run(1);
        y.ask(0, 200, 1);
        y.pay(0, 600);
        y.runs(0, 0, 40);
        C.due("as its dues say, what is paid ahead or not", y.loanOf(0, 4), 0);
        y.cost(600);
        C.due("dues come", alone(y, 1), 1);
        y.runs(0, 0, 41);
        C.due("and no more", alone(y, 1), 0);
    }

    private static void best() {
        Bond x = two(1000);
        C.due("of none", x.best(0), 0);
        C.refused("no ask", x, () -> x.best(1), -7, -7);
        x.ask(0, 600, 4);
        x.ask(0, 500, 4);
        x.ask(0, 400, 4);
        x.ask(0, 100, 4);
        C.due("the most asks", x.best(15), 14);
        C.due("of the told ones alone", x.best(3), 1);
        C.due("two of three", x.best(7), 5);
        C.due("one", x.best(4), 4);
        C.refused("a bit too far", x, () -> x.best(16), -7, -7);
        C.refused("below 0", x, () -> x.best(-1), -7, -7);
        C.refused("far below 0", x, () -> x.best(Integer.MIN_VALUE), -7, -7);
        for (int i = 4; i < 24; i++) {
            x.ask(0, 1, 8);
        }
        C.due("eight", x.best(0xFF0000), 0xFF0000);
        C.refused("nine", x, () -> x.best(0xFF8000), -7, -7);
        C.refused("beyond the last", x, () -> x.best(1 << 24), -7, -7);
        x.runs(1, 0, 1000);
        C.due("if nothing else is lent", x.best(0xFF0000), 0);
        x.runs(1, 0, 1001);
        C.due("if not even the empty set lasts", x.best(1), 0);
    }

    private static void bestOfLike() {
        Bond x = two(100);
        x.ask(0, 50, 4);
        x.ask(0, 60, 4);
        x.ask(0, 40, 4);
        x.ask(0, 50, 4);
        x.ask(0, 60, 4);
        C.due("the greatest sums", x.best(7), 6);
        C.due("of like sums the least ask", x.best(15), 9);
        C.due("of like ones the least that differs", x.best(31), 9);
        C.due("0 and 3 rather than 1 and 2", x.best(0b01111), 0b01001);
        C.due("1 and 2 rather than 2 and 4", x.best(0b10110), 0b00110);
        Bond y = two(100);
        y.ask(0, 30, 4);
        y.ask(0, 20, 4);
        y.ask(0, 70, 4);
        y.ask(0, 80, 4);
        C.due("0 and 2 rather than 1 and 3", y.best(15), 5);
        Bond z = two(100);
        z.ask(0, 60, 4);
        z.ask(0, 61, 4);
        C.due("1 more is greater", z.best(3), 2);
        bestThroughRuns();
    }

    private static void bestThroughRuns() {
        Bond x = two(1000);
        x.ask(10, 400, 4);
        x.answer(0);
        x.run(1);
        // 600 are there; 100 come in each of 4 weeks, 101 in the last one.
        x.ask(0, 200, 2);
        x.ask(0, 200, 4);
        x.ask(0, 200, 1);
        C.due("all", x.best(14), 14);
        x.runs(2, 0, 100);
        C.due("what open loans bring", x.best(14), 14);
        x.runs(2, 1, 450);
        C.due("and what the new ones would: 100, 50 and 200", x.best(14), 14);
        x.runs(2, 1, 451);
        C.due("not all: rather the sooner ones", x.best(14), 10);
        x.runs(2, 1, 0);
        x.runs(1, 0, 301);
        C.due("the least of like ones", x.best(14), 2);
        x.runs(1, 0, 701);
        C.due("none", x.best(14), 0);
        x.calm(1);
        x.calm(2);
        x.runs(0, 7, 1001);
        C.due("through all of it", x.best(14), 14);
        x.runs(0, 7, 1002);
        C.due("nothing helps", x.best(14), 0);
    }

    private static void mayNotBe() {
        Bond x = two(1000);
        x.ask(0, 300, 4);
        x.ask(0, 5001, 4);
        x.ask(3, 300, 4);
        x.ask(0, 200, 4);
        x.ask(0, 1500, 4);
        x.answer(3);
        C.due("too much, without backers, answered: left out", x.best(15), 1);
        C.due("none is left", x.best(14), 0);
        C.due("one without cash may be in, but doesn't last", x.best(16), 0);
        x.lay(1);
        for (int i = 1; i < 4; i++) {
            int ask = i;
            x.set(0, ask);
            C.refused("ask " + ask + " may not be in a set", x, () -> x.judge(), -7, -7);
        }
        x.set(0, 4);
        C.due("one without cash", x.judge(), 0);
        x.run(2);
        C.due("late", x.best(17), 0);
        x.pay(0, 200);
        C.due("not late", x.best(17), 1);
        x.died(0, 0);
        C.due("dead", x.best(17), 0);
    }

    private static void judge() {
        Bond x = two(1000);
        C.refused("missing", x, () -> x.judge(), -2, -2);
        x.lay(0);
        C.due("the empty set", x.judge(), 1);
        x.lay(2);
        C.refused("no ask", x, () -> x.judge(), -7, -7);
        x.ask(0, 400, 4);
        x.ask(0, 600, 4);
        x.ask(0, 601, 4);
        C.refused("twice", x, () -> x.judge(), -7, -7);
        x.set(1, 1);
        C.due("both", x.judge(), 1);
        x.set(1, 2);
        C.due("too much", x.judge(), 0);
        x.set(0, 3);
        C.refused("beyond", x, () -> x.judge(), -7, -7);
        x.set(0, -1);
        C.refused("below 0", x, () -> x.judge(), -7, -7);
        x.set(0, 32);
        C.refused("a bit that wraps", x, () -> x.judge(), -7, -7);
        x.lay(0);
        x.runs(0, 0, 1001);
        C.due("the empty set doesn't last", x.judge(), 0);
        C.due("the answers were none", x.askOf(0, 7), -1);
    }

    private static void fall() {
        Bond x = two(1000);
        x.save(1, 200);
        x.member(3, 3);
        x.save(2, 100);
        x.ask(0, 900, 5);
        x.back(0, 1, 60);
        x.back(0, 2, 300);
        x.ask(0, 200, 5);
        x.answer(0);
        x.answer(1);
        x.draw(0, 100);
        x.pay(0, 4);
        // 900 and 201 are owed; 900 are saved, 60 and then 100 of the backers have nothing left to pay.
        C.due("who", x.fall(0, 0), 1);
        C.due("lost", x.fall(0, 1), 201);
        C.due("rounds", x.fall(0, 2), 1);
        C.due("all is as before", x.saved(0, 0, 0), 900);
        C.due("its loans too", x.loanOf(0, 7), 0);
        C.due("one without loans", x.fall(1, 0), 2);
        C.due("nothing lost", x.fall(1, 1), 0);
        C.due("one round", x.fall(1, 2), 1);
        x.save(1, 500);
        x.draw(0, 500);
        // 400 of its own, 60 and 100: 340 are lost, and all of the other loan.
        C.due("lost", x.fall(0, 1), 541);
        C.refused("what 3", x, () -> x.fall(0, 3), -7, -7);
        C.refused("what -1", x, () -> x.fall(0, -1), -7, -7);
        C.refused("nobody", x, () -> x.fall(3, 0), -3, -3);
        C.refused("BEYOND ahead of NO", x, () -> x.fall(-1, 3), -3, -3);
    }

    private static void fallInRounds() {
        Bond x = new Bond();
        for (int i = 0; i < 5; i++) {
            x.member(i, i);
        }
        x.save(0, 100);
        x.save(1, 1000);
        x.save(2, 1000);
        x.save(3, 1000);
        x.save(4, 9000);
        // 0 is backed by 3, 3 by 1, 1 by 2; each of these but 2 has a secured loan of all it saved.
        lend(x, 3, 800, 3, 900);
        lend(x, 33, 700, 1, 700);
        lend(x, 13, 600, 2, 600);
        lend(x, 32, 1000, -1, 0);
        lend(x, 12, 1000, -1, 0);
        lend(x, 42, 5000, -1, 0);
        C.due("loans", x.count(6), 6);
        x.draw(0, 50);
        // Round 1: 0 has 50, 750 of 3 are taken. Round 2: 3 has 250 for 700: 450 of 1; its 1000 are lost.
        // Round 3: 1 has 550 for 600: 50 of 2; its 1000 are lost.
        C.due("who", x.fall(0, 0), 0b1011);
        C.due("lost", x.fall(0, 1), 2000);
        C.due("rounds", x.fall(0, 2), 3);
        // 3 has 1000 for 700, and 300 of its 1000: 700 are lost, nobody else is hit.
        C.due("alone", x.fall(3, 0), 8);
        C.due("lost then", x.fall(3, 1), 700);
        C.due("one round", x.fall(3, 2), 1);
        C.due("one who only backs", x.fall(2, 0), 4);
        C.due("it has no loan", x.fall(2, 1), 0);
        C.due("one who is secured", x.fall(4, 1), 0);
        x.run(1);
        x.save(0, 5000);
        x.found(4, 0, -4001);
        C.due("one that has less than held falls in the next round", x.fall(2, 0), 0b10100);
        C.due("two rounds", x.fall(2, 2), 2);
        C.due("it loses 1", x.fall(2, 1), 1);
    }

    /** Lent without interest. */
    private static void lend(Bond x, int of, int sum, int backer, int pledge) {
        Check.rule(x, "rate 0", 0, 1);
        int ask = x.ask(of, sum, 5);
        if (backer >= 0) {
            x.back(ask, backer, pledge);
        }
        C.due("lent", x.answer(ask), 0);
    }
}
