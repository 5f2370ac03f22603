/** Promises 33 to 40: the till, books, what is counted, images. */
public final class TillTest {
    private static final Check C = new Check("TillTest");

    public static void main(String[] args) {
        duty();
        counted();
        suspects();
        book();
        wrong();
        count();
        image();
        imageOfAll();
        undoneAndDoneAgain();
        imageOfMost();
        C.end();
    }

    private static Bond three() {
        Bond x = new Bond();
        x.member(1, 1);
        x.member(2, 2);
        x.member(3, 3);
        return x;
    }

    private static void duty() {
        Bond x = three();
        C.due("none at first", x.duty(2), -1);
        C.due("who was told ahead", x.duty(0), 2);
        C.due("again", x.duty(0), 0);
        x.run(1);
        C.due("another week", x.duty(1), -1);
        C.refused("nobody", x, () -> x.duty(3), -3, -3);
        C.refused("member -1", x, () -> x.duty(-1), -3, -3);
        for (int i = 0; i < 6; i++) {
            x.run(60);
        }
        x.run(39);
        C.due("in the last week", x.duty(1), -1);
        C.due("again", x.duty(2), 1);
        x.image();
        x.duty(0);
        x.undo();
        C.due("as it was kept", x.duty(1), 2);
    }

    private static void counted() {
        Bond x = three();
        C.due("nothing", x.counted(0), 0);
        x.save(0, 500);
        C.due("short", x.counted(480), 20);
        C.due("too much", x.counted(503), -3);
        C.due("the most", x.counted(9999999), 500 - 9999999);
        C.refused("-1", x, () -> x.counted(-1), 0, -7);
        C.refused("10000000", x, () -> x.counted(10000000), 0, -7);
        for (int i = 4; i < 20; i++) {
            x.counted(500);
        }
        C.due("how often", x.count(12), 20);
        C.refused("a twenty-first", x, () -> x.counted(500), 0, -8);
        C.refused("NO ahead of FULL", x, () -> x.counted(-1), 0, -7);
        C.due("cash is as it was", x.count(3), 500);
    }

    private static void suspects() {
        Bond x = three();
        x.save(0, 500);
        C.due("nothing is counted", x.suspects(), -1);
        x.duty(2);
        x.counted(500);
        C.due("nothing is short", x.suspects(), -1);
        x.run(1);
        x.duty(0);
        x.duty(1);
        x.run(1);
        x.counted(500);
        x.run(1);
        x.duty(0);
        x.run(2);
        x.duty(2);
        x.counted(490);
        C.due("behind week 2 up to week 5", x.suspects(), 0b101);
        x.duty(1);
        C.due("the last told of its own week", x.suspects(), 0b011);
        x.run(1);
        x.duty(2);
        x.counted(480);
        C.due("the first one alone", x.suspects(), 0b011);
        Bond y = three();
        y.duty(1);
        y.run(1);
        y.duty(0);
        y.run(1);
        y.counted(1);
        C.due("from 0 on", y.suspects(), 0b011);
        y.duty(2);
        C.due("up to its own", y.suspects(), 0b111);
        Bond z = three();
        z.duty(0);
        z.counted(0);
        z.counted(7);
        C.due("in the week of the one ahead: no week is left", z.suspects(), 0);
        Bond w = three();
        w.save(0, 10);
        w.counted(9);
        w.duty(0);
        w.run(1);
        w.duty(1);
        w.counted(9);
        C.due("short from the first on", w.suspects(), 1);
        Bond v = three();
        v.run(3);
        v.counted(5);
        C.due("nobody was on duty", v.suspects(), 0);
    }

    private static void book() {
        Bond x = three();
        x.run(4);
        C.due("the first", x.book(0, 0, 9999999), 1);
        C.due("the open week", x.book(2, 4, -9999999), 2);
        C.refused("a week to come", x, () -> x.book(0, 5, 1), -3, -3);
        C.refused("week -1", x, () -> x.book(0, -1, 1), -3, -3);
        C.refused("nobody", x, () -> x.book(3, 0, 1), -3, -3);
        C.refused("member -1", x, () -> x.book(-1, 0, 1), -3, -3);
        C.refused("too much", x, () -> x.book(0, 0, 10000000), -7, -7);
        C.refused("too little", x, () -> x.book(0, 0, -10000000), -7, -7);
        C.refused("BEYOND ahead of NO", x, () -> x.book(3, 0, 10000000), -3, -3);
        for (int i = 3; i <= 20; i++) {
            C.due("book " + i, x.book(1, 1, 1), i);
        }
        C.refused("a twenty-first", x, () -> x.book(0, 0, 1), -8, -8);
        C.refused("NO ahead of FULL", x, () -> x.book(0, 0, 10000000), -7, -7);
        C.due("how many", x.count(11), 20);
    }

    private static void wrong() {
        Bond x = three();
        C.due("none", x.wrong(), 0);
        x.save(0, 100);
        x.book(0, 0, 100);
        x.book(0, 0, 101);
        x.book(1, 0, 0);
        C.due("one is wrong", x.wrong(), 2);
        x.run(1);
        x.save(0, 5);
        C.due("later weeks don't matter", x.wrong(), 2);
        x.found(0, 0, 1);
        C.due("as known now", x.wrong(), 1);
        x.book(0, 1, 106);
        C.due("right", x.wrong(), 1);
        x.save(0, 1);
        C.due("wrong then", x.wrong(), 9);
        for (int i = 4; i < 20; i++) {
            x.book(2, 0, 1);
        }
        C.due("all the bits", x.wrong(), 0xFFFF9);
    }

    private static void count() {
        Bond x = three();
        x.save(0, 4000);
        x.save(1, 500);
        x.ask(20, 1000, 10);
        x.ask(2, 200, 10);
        x.ask(10, 100, 1);
        x.ask(10, 9000, 1);
        for (int i = 0; i < 4; i++) {
            x.answer(i);
        }
        x.run(3);
        x.pay(2, 100);
        x.run(52);
        Check.rule(x, "dormant 40");
        x.feed(7, 3);
        x.book(0, 0, 0);
        x.book(0, 0, 1);
        x.counted(0);
        x.save(0, 0);
        // Of loan 0 all 1010 are lost; loan 1 took 201 of the 4000.
        long[] due = {55, 3, 3, 3300, -1010, 4, 3, 0, 1, 3, 1, 2, 1, 3, 4299, 0};
        for (int i = 0; i < 16; i++) {
            C.due("count " + i, x.count(i), due[i]);
        }
        C.refused("what -1", x, () -> x.count(-1), 0, -7);
        C.refused("what 16", x, () -> x.count(16), 0, -7);
        Bond y = three();
        y.save(0, 4000);
        y.ask(0, 1000, 10);
        y.ask(1, 500, 10);
        y.answer(0);
        y.answer(1);
        C.due("open ones", y.count(7), 2);
        C.due("owed", y.count(15), 1010 + 506);
        y.pay(1, 506);
        C.due("an open one", y.count(7), 1);
        C.due("owed by it", y.count(15), 1010);
        C.due("loans", y.count(6), 2);
    }

    private static void image() {
        Bond x = three();
        C.refused("none is kept", x, () -> x.undo(), -2, -2);
        x.run(3);
        C.due("the open week", x.image(), 3);
        x.run(4);
        C.due("the open week then", x.undo(), 3);
        C.due("it is open", x.count(0), 3);
        x.run(5);
        C.due("again", x.undo(), 3);
        x.run(1);
        C.due("kept anew", x.image(), 4);
        x.run(1);
        C.due("the last one", x.undo(), 4);
    }

    private static void imageOfAll() {
        Bond x = three();
        grow(x);
        Check.feed(x, "div 3");
        x.lay(3);
        x.set(1, 5);
        long[] kept = Look.kept(x);
        x.image();
        Check.rule(x, "limit 4");
        x.lay(2);
        x.set(0, 8);
        x.save(77, 1);
        x.member(4, 4);
        grow(x);
        x.died(0, 60);
        x.duty(0);
        x.voided();
        x.runs(0, 0, 5);
        x.calm(1);
        Check.feed(x, "rate");
        int refusals = x.status(-3);
        C.due("undo", x.undo(), 60);
        C.due("the tape stays", x.count(9), 4);
        C.due("the row stays", x.row(0), 8);
        C.refused("its size too", x, () -> x.row(2), 0, -3);
        C.due("status stays", x.status(-3), refusals + 1);
        x.wipe();
        Check.feed(x, "div 3");
        C.so("all else is as it was", java.util.Arrays.equals(kept, Look.kept(x)));
        C.due("a run", x.runs(0, 0, 0), 0);
        C.due("a run that was told", x.runs(1, 2, 0), 3);
        C.due("who was on duty", x.duty(1), -1);
        C.due("nobody died", x.look(0, 3), -1);
        C.due("the year isn't void", x.year(0, 6), 0);
    }

    /** What stood in a place ahead of undo() is not there in what comes into it then. */
    private static void undoneAndDoneAgain() {
        Bond x = three();
        x.save(0, 1000);
        x.save(1, 30);
        x.save(2, 5000);
        x.image();
        x.ask(0, 700, 1);
        x.back(0, 1, 20);
        x.answer(0);
        x.draw(0, 900);
        x.run(2);
        x.pay(0, 100);
        x.duty(2);
        x.died(2, 1);
        x.member(4, 5);
        x.died(3, 2);
        x.run(60);
        C.due("lost", x.loanOf(0, 10), 480);
        C.due("of the backer", x.loanOf(0, 9), 20);
        x.undo();
        Check.rule(x, "rate 100");
        C.due("an ask in its place", x.ask(0, 700, 10), 0);
        C.due("without backers", x.askOf(0, 4), 0);
        C.due("without an answer", x.askOf(0, 7), -1);
        C.due("without a loan", x.askOf(0, 9), -1);
        x.answer(0);
        long[] due = {0, 0, 70, 0, 0, 770, 0, 0, 0, 0, 0};
        for (int i = 0; i < due.length; i++) {
            C.due("a loan in its place: " + i, x.loanOf(0, i), due[i]);
        }
        C.due("a member in its place", x.member(6, 7), 3);
        C.due("it lives", x.look(3, 3), -1);
        C.due("it has nothing", x.saved(3, 0, 0), 0);
        x.pay(0, 110);
        x.run(1);
        C.due("entries", x.count(2), 3);
        C.due("of the dead", entriesBehind(x), 0);
        x.run(51);
        C.due("earned", x.got(0, 0, 3), 10);
    }

    private static long entriesBehind(Bond x) {
        x.died(0, 0);
        return x.look(0, 9);
    }

    private static void imageOfMost() {
        Bond x = new Bond();
        for (int i = 0; i < 16; i++) {
            x.member(i % 10, 1);
            x.save(i, 9000);
        }
        for (int i = 0; i < 24; i++) {
            x.ask(10 * (i % 16), 100 + i, 4);
            for (int j = 1; j < 5; j++) {
                x.back(i, (i + j) % 16, 50 + j);
            }
            C.due("lent", x.answer(i), 0);
        }
        for (int i = 0; i < 12; i++) {
            C.due("rule", Check.rule(x, "limit 10" + i), i);
        }
        for (int i = 0; i < 20; i++) {
            x.book(i % 16, 0, 9000 + i % 2);
            x.counted(x.count(3) - i);
        }
        x.lay(0);
        C.due("the empty set", x.judge(), 1);
        C.due("all fall", x.fall(15, 0), 1 << 15);
        long[] kept = Look.kept(x);
        C.due("image", x.image(), 0);
        x.run(60);
        C.due("all failed", x.count(7), 0);
        C.due("undo", x.undo(), 0);
        C.so("all is as it was", java.util.Arrays.equals(kept, Look.kept(x)));
        C.due("rules", x.count(8), 12);
        C.due("books", x.wrong(), 0xAAAAA);
    }

    private static void grow(Bond x) {
        x.save(0, 3000);
        x.save(1, 2000);
        int ask = x.ask(2, 300, 5);
        x.back(ask, 1, 50);
        x.answer(ask);
        x.ask(11, 100, 9);
        x.runs(1, 2, 3);
        x.book(1, 0, 2000);
        x.counted(77);
        Check.rule(x, "limit 100 + kind");
        x.duty(2);
        x.run(3);
        x.pay(x.count(6) - 1, 301);
        x.found(0, 2, 5);
        x.run(57);
    }
}
