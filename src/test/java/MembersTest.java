/** Promises 2 to 8: members and what they have saved. */
public final class MembersTest {
    private static final Check C = new Check("MembersTest");

    public static void main(String[] args) {
        member();
        died();
        save();
        draw();
        found();
        saved();
        look();
        dormant();
        entriesAreFull();
        C.end();
    }

    private static void member() {
        Bond x = new Bond();
        C.due("the first", x.member(0, 0), 0);
        C.due("the second", x.member(9, 9), 1);
        C.refused("work -1", x, () -> x.member(-1, 0), -7, -7);
        C.refused("work 10", x, () -> x.member(10, 0), -7, -7);
        C.refused("street -1", x, () -> x.member(0, -1), -7, -7);
        C.refused("street 10", x, () -> x.member(0, 10), -7, -7);
        for (int i = 2; i < 16; i++) {
            C.due("member " + i, x.member(i % 10, 9 - i % 10), i);
        }
        C.refused("a seventeenth", x, () -> x.member(1, 1), -8, -8);
        C.refused("NO comes ahead of FULL", x, () -> x.member(1, 10), -7, -7);
        C.due("how many", x.count(1), 16);
        C.due("work", x.look(9, 0), 9);
        C.due("street", x.look(9, 1), 0);
    }

    private static void died() {
        Bond x = new Bond();
        x.member(1, 1);
        C.refused("no member", x, () -> x.died(1, 0), 0, -3);
        C.refused("member -1", x, () -> x.died(-1, 0), 0, -3);
        C.refused("no member and a week to come", x, () -> x.died(1, 1), 0, -3);
        C.refused("the week to come", x, () -> x.died(0, 1), 0, -7);
        C.refused("a week above all", x, () -> x.died(0, 401), 0, -7);
        C.refused("the greatest number", x, () -> x.died(0, Integer.MAX_VALUE), 0, -7);
        C.refused("week -1", x, () -> x.died(0, -1), 0, -7);
        C.refused("the least number", x, () -> x.died(0, Integer.MIN_VALUE), 0, -7);
        x.run(5);
        x.member(2, 2);
        C.refused("ahead of joining", x, () -> x.died(1, 4), 0, -7);
        C.refused("behind the open one", x, () -> x.died(1, 6), 0, -7);
        C.refused("BEYOND ahead of NO", x, () -> x.died(2, 6), 0, -3);
        C.due("as it joined", x.died(1, 5), -1);
        C.due("told again", x.died(1, 5), 5);
        C.due("in the first week", x.died(0, 0), -1);
        C.due("told otherwise", x.died(0, 3), 0);
        C.due("and again", x.died(0, 5), 3);
        C.due("the last told stands", x.look(0, 3), 5);
    }

    private static void save() {
        Bond x = new Bond();
        x.member(1, 1);
        x.member(2, 2);
        C.due("the least", x.save(0, 1), 1);
        C.due("the most", x.save(0, 99999), 100000);
        C.due("one entry a week", x.count(2), 1);
        C.due("cash", x.count(3), 100000);
        C.due("another member", x.save(1, 5), 5);
        C.due("its own entry", x.count(2), 2);
        x.run(1);
        C.due("another week", x.save(0, 7), 100007);
        C.due("another entry", x.count(2), 3);
        C.refused("0", x, () -> x.save(0, 0), -7, -7);
        C.refused("below 0", x, () -> x.save(0, -5), -7, -7);
        C.refused("too much", x, () -> x.save(0, 100000), -7, -7);
        C.refused("nobody", x, () -> x.save(2, 1), -3, -3);
        C.refused("member -1", x, () -> x.save(-1, 1), -3, -3);
        C.refused("BEYOND ahead of NO", x, () -> x.save(2, 0), -3, -3);
        x.died(1, 0);
        C.refused("the dead", x, () -> x.save(1, 1), -7, -7);
    }

    private static void draw() {
        Bond x = new Bond();
        x.member(1, 1);
        x.member(2, 2);
        x.save(0, 100);
        x.save(1, 50);
        C.due("draw", x.draw(0, 30), 70);
        C.due("like entries", x.count(2), 2);
        C.due("cash", x.count(3), 120);
        C.refused("more than saved", x, () -> x.draw(0, 71), -7, -7);
        C.refused("0", x, () -> x.draw(0, 0), -7, -7);
        C.refused("100000", x, () -> x.draw(0, 100000), -7, -7);
        C.refused("below 0", x, () -> x.draw(0, Integer.MIN_VALUE), -7, -7);
        C.refused("nobody", x, () -> x.draw(2, 1), -3, -3);
        C.refused("BEYOND ahead of NO", x, () -> x.draw(-1, 0), -3, -3);
        x.ask(2, 40, 4);
        C.due("secured", x.answer(0), 0);
        C.due("held", x.look(0, 4), 40);
        C.refused("what is held", x, () -> x.draw(0, 31), -7, -7);
        C.due("what isn't held", x.draw(0, 30), 40);
        x.cost(49);
        C.due("cash then", x.count(3), 1);
        C.refused("more than cash", x, () -> x.draw(1, 2), -2, -2);
        C.refused("NO ahead of MISSING", x, () -> x.draw(1, 51), -7, -7);
        C.due("all the cash", x.draw(1, 1), 49);
        x.pay(0, 10);
        x.died(0, 0);
        C.due("the dead may draw", x.draw(0, 10), 30);
        C.due("what is saved stays as an entry of 0", entryOfNothing(), 1);
    }

    private static long entryOfNothing() {
        Bond x = new Bond();
        x.member(1, 1);
        x.save(0, 5);
        x.draw(0, 5);
        return x.count(2);
    }

    private static void found() {
        Bond x = new Bond();
        x.member(1, 1);
        x.save(0, 100);
        C.refused("no week ahead of the first", x, () -> x.found(0, 0, 5), -3, -3);
        x.run(3);
        C.due("found", x.found(0, 1, 20), 120);
        C.due("cash with it", x.count(3), 120);
        C.due("saved in week 0", x.saved(0, 0, 3), 100);
        C.due("saved in week 1", x.saved(0, 1, 3), 120);
        C.due("not known ahead", x.saved(0, 1, 2), 100);
        C.due("the same entry", x.found(0, 1, -50), 70);
        C.due("how many", x.count(2), 2);
        C.due("for another week", x.found(0, 2, -70), 0);
        C.due("no cash", x.count(3), 0);
        C.refused("cash below 0", x, () -> x.found(0, 0, -1), -2, -2);
        C.refused("0", x, () -> x.found(0, 0, 0), -7, -7);
        C.refused("too much", x, () -> x.found(0, 0, 100000), -7, -7);
        C.refused("too little", x, () -> x.found(0, 0, -100000), -7, -7);
        C.refused("the open week", x, () -> x.found(0, 3, 5), -3, -3);
        C.refused("week -1", x, () -> x.found(0, -1, 5), -3, -3);
        C.refused("nobody", x, () -> x.found(1, 0, 5), -3, -3);
        C.refused("BEYOND ahead of NO", x, () -> x.found(0, 3, 0), -3, -3);
        C.due("the most", x.found(0, 0, 99999), 99999);
        C.due("the least", x.found(0, 0, -99999), 0);
        x.member(2, 2);
        C.due("below 0", x.save(1, 10), 10);
        C.due("one has less than nothing", x.found(0, 2, -10), -10);
        C.due("a book is no act", x.look(0, 8), 0);
        x.died(0, 3);
        C.due("also of the dead", x.found(0, 2, 5), -5);
    }

    private static void saved() {
        Bond x = new Bond();
        x.member(1, 1);
        x.save(0, 100);
        x.run(2);
        x.save(0, 10);
        x.run(1);
        x.found(0, 1, 1000);
        C.due("week 0 as known in 0", x.saved(0, 0, 0), 100);
        C.due("week 2 as known in 1", x.saved(0, 2, 1), 100);
        C.due("week 2 as known in 2", x.saved(0, 2, 2), 110);
        C.due("week 2 as known in 3", x.saved(0, 2, 3), 1110);
        C.due("week 1 as known in 3", x.saved(0, 1, 3), 1100);
        C.due("week 0 as known in 3", x.saved(0, 0, 3), 100);
        C.due("week 3 as known in 0", x.saved(0, 3, 0), 100);
        C.refused("a week to come", x, () -> x.saved(0, 4, 0), 0, -3);
        C.refused("known in a week to come", x, () -> x.saved(0, 0, 4), 0, -3);
        C.refused("week -1", x, () -> x.saved(0, -1, 0), 0, -3);
        C.refused("known in -1", x, () -> x.saved(0, 0, -1), 0, -3);
        C.refused("nobody", x, () -> x.saved(1, 0, 0), 0, -3);
    }

    private static void look() {
        Bond x = new Bond();
        x.member(3, 4);
        x.save(0, 1000);
        x.run(2);
        x.member(5, 6);
        C.due("work", x.look(1, 0), 5);
        C.due("street", x.look(1, 1), 6);
        C.due("joined", x.look(1, 2), 2);
        C.due("lives", x.look(1, 3), -1);
        C.due("its last act", x.look(1, 8), 2);
        x.ask(2, 300, 3);
        x.ask(5, 200, 2);
        x.ask(0, 100, 4);
        C.due("secured", x.answer(0), 0);
        C.due("old", x.answer(1), 0);
        C.due("loan", x.answer(2), 0);
        C.due("held by secured ones and those under them", x.look(0, 4), 500);
        C.due("owed by all", x.look(0, 5), 600);
        C.due("none is late", x.look(0, 6), 0);
        x.run(2);
        // Due are 100 of the first and 25 of the third; of the OLD one's 2 weeks the interest alone, 0.
        C.due("late ones", x.look(0, 6), 2);
        x.pay(2, 25);
        C.due("one is late", x.look(0, 6), 1);
        C.due("to pay is an act", x.look(0, 8), 4);
        x.pay(0, 300);
        C.due("what is paid isn't held", x.look(0, 4), 200);
        C.due("nor owed", x.look(0, 5), 275);
        x.run(1);
        x.found(0, 4, 7);
        x.save(0, 9);
        C.due("no late entries while it lives", x.look(0, 9), 0);
        x.died(0, 2);
        C.due("the week in which it died", x.look(0, 3), 2);
        C.due("late entries of the dead", x.look(0, 9), 2);
        x.died(0, 4);
        C.due("behind that week only", x.look(0, 9), 1);
        C.refused("what -1", x, () -> x.look(0, -1), 0, -7);
        C.refused("what 10", x, () -> x.look(0, 10), 0, -7);
        C.refused("nobody", x, () -> x.look(2, 0), 0, -3);
        C.refused("BEYOND ahead of NO", x, () -> x.look(-1, 10), 0, -3);
    }

    private static void dormant() {
        Bond x = new Bond();
        x.member(1, 1);
        x.member(2, 2);
        x.run(3);
        C.due("none without a rule", x.look(0, 7), 0);
        C.due("a rule", Check.rule(x, "dormant 4 - work"), 0);
        C.due("3 weeks of 3", x.look(0, 7), 1);
        C.due("3 weeks of 2", x.look(1, 7), 1);
        C.due("both", x.count(13), 2);
        x.save(0, 5);
        C.due("to save is an act", x.look(0, 7), 0);
        x.run(2);
        C.due("2 weeks of 3", x.look(0, 7), 0);
        x.run(1);
        C.due("3 weeks of 3 again", x.look(0, 7), 1);
        x.draw(0, 1);
        C.due("to draw is an act", x.look(0, 7), 0);
        C.due("its week", x.look(0, 8), 6);
        x.died(1, 6);
        C.due("not the dead", x.look(1, 7), 0);
        C.due("none is left", x.count(13), 0);
        C.due("a rule that says 0", Check.rule(x, "dormant 0"), 1);
        x.run(60);
        C.due("never", x.look(0, 7), 0);
        C.due("a rule below 0", Check.rule(x, "dormant - 1"), 2);
        C.due("nor then", x.look(0, 7), 0);
    }

    private static void entriesAreFull() {
        Bond x = new Bond();
        for (int i = 0; i < 15; i++) {
            x.member(i % 10, 0);
        }
        for (int w = 0; w < 20; w++) {
            for (int m = 0; m < 15; m++) {
                x.save(m, 10);
            }
            if (w < 19) {
                x.run(1);
            }
        }
        C.due("300 entries", x.count(2), 300);
        C.due("a like one may be told", x.save(3, 1), 201);
        C.due("also drawn", x.draw(3, 2), 199);
        x.run(1);
        C.refused("save", x, () -> x.save(3, 1), -8, -8);
        C.refused("draw", x, () -> x.draw(3, 1), -8, -8);
        C.refused("found", x, () -> x.found(3, 0, 1), -8, -8);
        C.refused("NO ahead of FULL: save", x, () -> x.save(3, 0), -7, -7);
        C.refused("NO ahead of FULL: draw", x, () -> x.draw(3, 200), -7, -7);
        C.refused("NO ahead of FULL: found", x, () -> x.found(3, 0, 0), -7, -7);
        x.cost(x.count(3));
        C.refused("MISSING ahead of FULL: draw", x, () -> x.draw(3, 1), -2, -2);
        C.refused("MISSING ahead of FULL: found", x, () -> x.found(3, 0, -1), -2, -2);
    }
}
