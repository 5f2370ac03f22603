/** Promises 9 to 17: asks, their answers, and loans. */
public final class AsksTest {
    private static final Check C = new Check("AsksTest");

    public static void main(String[] args) {
        ask();
        back();
        askOf();
        limits();
        interests();
        answers();
        answerOfBacked();
        pay();
        loanOf();
        dues();
        taken();
        alike();
        C.end();
    }

    private static Bond three() {
        Bond x = new Bond();
        x.member(1, 1);
        x.member(2, 2);
        x.member(3, 3);
        return x;
    }

    private static void ask() {
        Bond x = three();
        C.due("the least", x.ask(0, 1, 1), 0);
        C.due("the most", x.ask(25, 99999, 60), 1);
        C.refused("member 3", x, () -> x.ask(30, 1, 1), -3, -3);
        C.refused("below 0", x, () -> x.ask(-1, 1, 1), -3, -3);
        C.refused("far below 0", x, () -> x.ask(Integer.MIN_VALUE, 1, 1), -3, -3);
        C.refused("far above", x, () -> x.ask(Integer.MAX_VALUE, 1, 1), -3, -3);
        C.refused("kind 6", x, () -> x.ask(6, 1, 1), -7, -7);
        C.refused("kind 9", x, () -> x.ask(9, 1, 1), -7, -7);
        C.refused("sum 0", x, () -> x.ask(0, 0, 1), -7, -7);
        C.refused("sum 100000", x, () -> x.ask(0, 100000, 1), -7, -7);
        C.refused("weeks 0", x, () -> x.ask(0, 1, 0), -7, -7);
        C.refused("weeks 61", x, () -> x.ask(0, 1, 61), -7, -7);
        C.refused("BEYOND ahead of NO", x, () -> x.ask(36, 0, 0), -3, -3);
        x.died(1, 0);
        C.due("the dead may ask", x.ask(11, 5, 5), 2);
        for (int i = 3; i < 24; i++) {
            C.due("ask " + i, x.ask(10, i, 2), i);
        }
        C.refused("a twenty-fifth", x, () -> x.ask(10, 1, 1), -8, -8);
        C.refused("NO ahead of FULL", x, () -> x.ask(10, 0, 1), -7, -7);
        C.due("how many", x.count(5), 24);
    }

    private static void back() {
        Bond x = three();
        for (int i = 3; i < 7; i++) {
            x.member(i, i);
        }
        x.ask(3, 500, 5);
        x.ask(0, 500, 5);
        C.due("one", x.back(0, 1, 1), 1);
        C.due("two", x.back(0, 2, 99999), 2);
        C.due("both together", x.askOf(0, 4), 100000);
        C.refused("its own member", x, () -> x.back(0, 0, 5), -7, -7);
        C.refused("twice", x, () -> x.back(0, 1, 5), -7, -7);
        C.refused("pledge 0", x, () -> x.back(0, 3, 0), -7, -7);
        C.refused("pledge 100000", x, () -> x.back(0, 3, 100000), -7, -7);
        C.refused("no such ask", x, () -> x.back(2, 3, 5), -3, -3);
        C.refused("ask -1", x, () -> x.back(-1, 3, 5), -3, -3);
        C.refused("no such member", x, () -> x.back(0, 7, 5), -3, -3);
        C.refused("member -1", x, () -> x.back(0, -1, 5), -3, -3);
        C.due("three", x.back(0, 3, 5), 3);
        C.due("four", x.back(0, 4, 5), 4);
        C.refused("five", x, () -> x.back(0, 5, 5), -8, -8);
        C.refused("NO ahead of FULL: twice", x, () -> x.back(0, 4, 5), -7, -7);
        C.due("of any kind", x.back(1, 1, 5), 1);
        C.due("answered", x.answer(1), 5);
        C.refused("of an answered one", x, () -> x.back(1, 2, 5), -7, -7);
        x.answer(0);
        C.refused("NO ahead of FULL: answered", x, () -> x.back(0, 5, 5), -7, -7);
    }

    private static void askOf() {
        Bond x = three();
        x.save(0, 5000);
        x.ask(23, 700, 7);
        x.back(0, 0, 300);
        x.back(0, 1, 200);
        long[] due = {2, 3, 700, 7, 500, 10000, 4, -1, 4, -1};
        for (int i = 0; i < due.length; i++) {
            C.due("askOf " + i, x.askOf(0, i), due[i]);
        }
        x.ask(1, 100, 5);
        x.ask(0, 100, 5);
        C.due("what it would be", x.askOf(1, 8), 0);
        C.due("answer", x.answer(0), 4);
        C.due("answer", x.answer(2), 0);
        C.due("the answer given", x.askOf(0, 7), 4);
        C.due("none now", x.askOf(0, 8), -1);
        C.due("no loan", x.askOf(0, 9), -1);
        C.due("answered with 0", x.askOf(2, 7), 0);
        C.due("its loan", x.askOf(2, 9), 0);
        C.due("limit goes on", x.askOf(2, 5), 5000);
        C.refused("what -1", x, () -> x.askOf(0, -1), 0, -7);
        C.refused("what 10", x, () -> x.askOf(0, 10), 0, -7);
        C.refused("no ask", x, () -> x.askOf(3, 0), 0, -3);
        C.refused("BEYOND ahead of NO", x, () -> x.askOf(-1, 10), 0, -3);
    }

    private static void limits() {
        Bond x = three();
        x.save(0, 1001);
        for (int kind = 0; kind < 6; kind++) {
            x.ask(kind, 10, 5);
        }
        long[] due = {5000, 1250, 1001, 10000, 10100, 500};
        for (int kind = 0; kind < 6; kind++) {
            C.due("limit of kind " + kind, x.askOf(kind, 5), due[kind]);
        }
        Check.rule(x, "limit 0 - 1001 - kind");
        long[] below = {-1001, -250, 1001, -2008, -1910, 500};
        for (int kind = 0; kind < 6; kind++) {
            C.due("limit below 0 of kind " + kind, x.askOf(kind, 5), below[kind]);
        }
        // 32767 * 65536 + 65535 is the greatest int, and 1 more the least.
        Check.rule(x, "limit 32767 * 8192 * 8 + 65535");
        long[] wrapped = {2147483647, 536870911, 1001, -2, 98, 500};
        for (int kind = 0; kind < 6; kind++) {
            C.due("wrapped limit of kind " + kind, x.askOf(kind, 5), wrapped[kind]);
        }
        C.due("old", x.answer(5), 0);
        C.due("less what is held", x.askOf(2, 5), 991);
        C.due("half of that", x.askOf(5, 5), 495);
        x.run(1);
        x.save(1, 9);
        x.found(0, 0, -1000);
        C.due("below 0", x.askOf(2, 5), -9);
        C.due("half, cut", x.askOf(5, 5), -4);
    }

    private static void interests() {
        Bond x = three();
        for (int kind = 0; kind < 6; kind++) {
            x.ask(kind, 3333, 7);
        }
        // 3333 * 10 * 7 / 10000 = 23.
        long[] due = {23, 24, 11, 23, 46, 11};
        for (int kind = 0; kind < 6; kind++) {
            C.due("interest of kind " + kind, x.askOf(kind, 6), due[kind]);
        }
        Check.rule(x, "rate 101");
        long[] most = {233, 234, 116, 233, 466, 116};
        for (int kind = 0; kind < 6; kind++) {
            C.due("at 100, kind " + kind, x.askOf(kind, 6), most[kind]);
        }
        Check.rule(x, "rate - 1");
        long[] least = {0, 1, 0, 0, 0, 0};
        for (int kind = 0; kind < 6; kind++) {
            C.due("at 0, kind " + kind, x.askOf(kind, 6), least[kind]);
        }
        Check.rule(x, "rate 50 + kind + sum / 3333");
        C.due("of the ask", x.askOf(4, 6), 2 * (3333 * 55 * 7 / 10000));
        Check.rule(x, "rate 100");
        x.ask(4, 99999, 60);
        C.due("the most there is", x.askOf(6, 6), 119998);
    }

    private static void answers() {
        Bond x = three();
        x.save(0, 3000);
        x.save(1, 100);
        x.ask(20, 5001, 5);
        x.ask(20, 5000, 5);
        x.ask(20, 3000, 5);
        C.due("above the limit", x.askOf(0, 8), 2);
        C.due("as much as the limit, but no cash", x.askOf(1, 8), 5);
        C.due("as much as cash allows", x.askOf(2, 8), 0);
        C.due("tells and keeps it", x.answer(1), 5);
        x.save(1, 5000);
        C.refused("once", x, () -> x.answer(1), -7, -7);
        C.due("it stays", x.askOf(1, 7), 5);
        C.due("lent", x.answer(2), 0);
        C.due("cash", x.count(3), 5100);
        C.due("loans", x.count(6), 1);
        C.refused("no ask", x, () -> x.answer(3), -3, -3);
        C.refused("ask -1", x, () -> x.answer(-1), -3, -3);
        x.ask(20, 10, 1);
        x.ask(20, 9999, 1);
        x.run(1);
        C.due("not late yet", x.askOf(3, 8), 0);
        x.run(1);
        C.due("a loan is late", x.askOf(3, 8), 3);
        C.due("2 goes ahead of 3", x.askOf(4, 8), 2);
        x.pay(0, 603);
        C.due("it isn't then", x.askOf(3, 8), 0);
        x.run(20);
        C.due("failed", x.loanOf(0, 7), 2);
        C.due("never again", x.answer(3), 3);
        C.due("1 goes ahead of 2", barred(x), 1);
        Check.rule(x, "bond sum = 7");
        x.ask(0, 7, 1);
        x.ask(0, 8, 1);
        C.due("bond says 1", x.answer(6), 0);
        C.due("bond says 0", x.answer(7), 1);
    }

    private static long barred(Bond x) {
        x.ask(10, 50000, 1);
        x.died(1, 1);
        return x.askOf(5, 8);
    }

    private static void answerOfBacked() {
        Bond x = three();
        x.save(1, 500);
        x.save(2, 500);
        x.ask(3, 900, 5);
        x.ask(4, 900, 5);
        x.ask(0, 900, 5);
        x.back(0, 1, 500);
        x.back(0, 2, 399);
        x.back(1, 1, 501);
        x.back(1, 2, 399);
        x.back(2, 1, 501);
        C.due("pledges below the sum", x.askOf(0, 8), 4);
        C.due("a backer has too little", x.askOf(1, 8), 4);
        C.due("of a loan it is nothing", x.askOf(2, 8), 0);
        x.save(1, 1);
        C.due("as much as its pledge", x.askOf(1, 8), 0);
        x.cost(200);
        C.due("4 ahead of 5", x.answer(0), 4);
        C.due("no cash", x.answer(1), 5);
    }

    private static void pay() {
        Bond x = three();
        x.save(0, 5000);
        x.ask(10, 1000, 4);
        x.answer(0);
        C.due("cash", x.count(3), 4000);
        x.run(2);
        C.due("the least", x.pay(0, 1), 1003);
        C.due("comes to cash", x.count(3), 4001);
        C.due("an act of its member", x.look(1, 8), 2);
        C.refused("0", x, () -> x.pay(0, 0), -7, -7);
        C.refused("below 0", x, () -> x.pay(0, -1), -7, -7);
        C.refused("more than owed", x, () -> x.pay(0, 1004), -7, -7);
        C.refused("no loan", x, () -> x.pay(1, 1), -3, -3);
        C.refused("loan -1", x, () -> x.pay(-1, 0), -3, -3);
        C.due("all", x.pay(0, 1003), 0);
        C.due("it is paid whole", x.loanOf(0, 7), 1);
        C.refused("a paid one", x, () -> x.pay(0, 1), -7, -7);
        x.ask(10, 1000, 4);
        x.answer(1);
        x.run(20);
        C.due("it failed", x.loanOf(1, 7), 2);
        C.refused("a failed one", x, () -> x.pay(1, 1), -7, -7);
    }

    private static void loanOf() {
        Bond x = three();
        x.save(0, 900);
        x.save(1, 400);
        x.save(2, 300);
        x.ask(0, 10, 1);
        x.ask(3, 1300, 5);
        x.back(1, 2, 200);
        x.back(1, 1, 350);
        C.due("pledges are too low", x.askOf(1, 8), 4);
        x.ask(0, 1300, 5);
        x.back(2, 2, 200);
        x.back(2, 1, 350);
        x.run(1);
        C.due("lent", x.answer(2), 0);
        long[] first = {2, 1, 6, 0, 0, 1306, 0, 0, 0, 0, 0};
        all("as it is lent", x, first);
        x.run(2);
        long[] late = {2, 1, 6, 0, 261, 1306, 1, 0, 0, 0, 0};
        all("late", x, late);
        x.pay(0, 262);
        x.run(1);
        long[] lateAgain = {2, 1, 6, 262, 522, 1044, 2, 0, 0, 0, 0};
        all("late still", x, lateAgain);
        x.pay(0, 1044 - 262);
        x.run(1);
        C.due("not late", x.loanOf(0, 6), 0);
        x.run(3);
        C.due("late anew", x.loanOf(0, 6), 2);
        x.draw(0, 850);
        C.due("none fails in 10 weeks", x.run(10), 0);
        C.due("12 weeks", x.loanOf(0, 6), 12);
        C.due("the thirteenth", x.run(1), 1);
        // 262 are owed: 50 of its own, 200 of the first backer, 12 of the second.
        long[] failed = {2, 1, 6, 1044, 1306, 262, 13, 2, 50, 212, 0};
        all("failed", x, failed);
        C.due("the first backer", x.saved(2, 18, 18), 100);
        C.due("the second one", x.saved(1, 18, 18), 388);
        C.due("not in the week ahead", x.saved(1, 17, 19), 400);
        C.due("nor known in it", x.saved(1, 19, 17), 400);
        C.due("cash is as it was", x.count(3), 900 + 400 + 300 - 1300 + 1044 - 850);
        C.refused("what -1", x, () -> x.loanOf(0, -1), -7, -7);
        C.refused("what 11", x, () -> x.loanOf(0, 11), -7, -7);
        C.refused("no loan", x, () -> x.loanOf(1, 0), -3, -3);
        C.refused("BEYOND ahead of NO", x, () -> x.loanOf(-1, 11), -3, -3);
        lost();
    }

    private static void lost() {
        Bond x = three();
        x.save(0, 1000);
        x.save(1, 150);
        x.save(2, 80);
        x.member(4, 4);
        x.save(3, 5000);
        x.ask(0, 700, 1);
        x.back(0, 1, 100);
        x.back(0, 2, 100);
        x.answer(0);
        x.draw(0, 998);
        C.due("13 weeks", x.run(13), 0);
        C.due("all failed", x.run(1), 1);
        C.due("its own", x.loanOf(0, 8), 2);
        C.due("of its pledge, and of what it has", x.loanOf(0, 9), 180);
        C.due("lost", x.loanOf(0, 10), 518);
        C.due("a pledge is a bound", x.saved(1, 14, 14), 50);
        C.due("and so is what it has", x.saved(2, 14, 14), 0);
    }

    private static void all(String when, Bond x, long[] due) {
        for (int i = 0; i < due.length; i++) {
            C.due(when + ", loanOf " + i, x.loanOf(0, i), due[i]);
        }
    }

    private static void dues() {
        Bond x = three();
        x.save(0, 99999);
        Check.rule(x, "rate 50");
        Check.rule(x, "limit 20000");
        x.save(1, 99999);
        x.back(0, 1, 5);
        for (int kind = 0; kind < 6; kind++) {
            int ask = x.ask(kind, 1001, 3);
            x.back(ask, 1, 1001);
        }
        x.run(2);
        for (int kind = 0; kind < 6; kind++) {
            C.due("answer", x.answer(kind), 0);
        }
        // INTEREST 15, 16, 7, 15, 30, 7.
        long[][] due = {{338, 338, 340}, {339, 339, 339}, {336, 336, 336}, {338, 338, 340}, {0, 0, 1031},
            {2, 2, 1004}};
        for (int loan = 0; loan < 6; loan++) {
            C.due("as it is lent", x.dues(loan, 2), 0);
            for (int i = 0; i < 3; i++) {
                C.due("dues of loan " + loan + " in week " + (3 + i), x.dues(loan, 3 + i), due[loan][i]);
            }
            C.due("behind", x.dues(loan, 6), 0);
            C.due("far behind", x.dues(loan, 1000), 0);
            C.due("ahead", x.dues(loan, 0), 0);
        }
        x.pay(0, 1016);
        C.due("paid whole, they stay", x.dues(0, 5), 340);
        C.refused("week -1", x, () -> x.dues(0, -1), 0, -3);
        C.refused("week 1001", x, () -> x.dues(0, 1001), 0, -3);
        C.refused("no loan", x, () -> x.dues(6, 0), 0, -3);
        C.refused("loan -1", x, () -> x.dues(-1, 0), 0, -3);
    }

    private static void taken() {
        Bond x = three();
        x.save(0, 99999);
        x.save(1, 99999);
        for (int kind = 0; kind < 6; kind++) {
            int ask = x.ask(kind, 100 + kind, 3);
            x.back(ask, 1, 1001);
            x.answer(ask);
        }
        String[] of = {"0", "01", "02", "03", "034", "025"};
        for (int loan = 0; loan < 6; loan++) {
            for (int k = 0; k < 6; k++) {
                C.due("loan " + loan + " as " + k, x.taken(loan, k), of[loan].indexOf('0' + k) >= 0 ? 100 + loan : -5);
            }
        }
        C.due("so many of another kind", x.status(-5), 36 - 13);
        C.refused("another kind", x, () -> x.taken(0, 5), -5, -5);
        C.refused("k -1", x, () -> x.taken(0, -1), -7, -7);
        C.refused("k 6", x, () -> x.taken(0, 6), -7, -7);
        C.refused("no loan", x, () -> x.taken(6, 0), -3, -3);
        C.refused("BEYOND ahead of NO", x, () -> x.taken(-1, 6), -3, -3);
    }

    private static void alike() {
        Bond x = three();
        x.save(0, 1000);
        x.ask(0, 600, 5);
        x.ask(10, 600, 5);
        x.ask(20, 600, 5);
        x.ask(0, 600, 6);
        x.ask(0, 601, 5);
        x.ask(1, 600, 5);
        x.answer(0);
        C.due("one isn't answered", x.alike(0, 1), 0);
        C.due("the other isn't", x.alike(1, 0), 0);
        for (int i = 1; i < 6; i++) {
            x.answer(i);
        }
        C.due("unlike: one had, one got no cash", x.alike(0, 1), 2);
        C.due("the other way", x.alike(1, 0), 2);
        C.due("alike", x.alike(1, 2), 1);
        C.due("other weeks", x.alike(0, 3), 0);
        C.due("another sum", x.alike(0, 4), 0);
        C.due("another kind", x.alike(0, 5), 0);
        C.refused("itself", x, () -> x.alike(1, 1), -7, -7);
        C.refused("no ask", x, () -> x.alike(0, 6), -3, -3);
        C.refused("ask -1", x, () -> x.alike(-1, 0), -3, -3);
        C.refused("BEYOND ahead of NO", x, () -> x.alike(6, 6), -3, -3);
    }
}
