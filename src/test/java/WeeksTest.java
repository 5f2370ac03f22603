/** Promises 23 to 27: weeks that close, costs, years and how they are parted. */
public final class WeeksTest {
    private static final Check C = new Check("WeeksTest");

    public static void main(String[] args) {
        run();
        cost();
        surplus();
        bounds();
        rests();
        withoutParts();
        earnedOnce();
        lostYear();
        shareWeeks();
        reworked();
        voided();
        C.end();
    }

    private static Bond two() {
        Bond x = new Bond();
        x.member(1, 1);
        x.member(2, 2);
        return x;
    }

    private static void run() {
        Bond x = two();
        C.due("one", x.run(1), 0);
        C.due("the open one", x.count(0), 1);
        C.refused("0", x, () -> x.run(0), -7, -7);
        C.refused("-1", x, () -> x.run(-1), -4, -4);
        C.refused("far below", x, () -> x.run(Integer.MIN_VALUE), -4, -4);
        C.refused("61", x, () -> x.run(61), -7, -7);
        C.refused("far above", x, () -> x.run(Integer.MAX_VALUE), -7, -7);
        for (int i = 0; i < 6; i++) {
            C.due("the most", x.run(60), 0);
        }
        C.due("361", x.count(0), 361);
        C.refused("above 400", x, () -> x.run(40), -8, -8);
        C.due("up to 400", x.run(39), 0);
        C.refused("401", x, () -> x.run(1), -8, -8);
        C.refused("NO ahead of FULL", x, () -> x.run(0), -7, -7);
        C.due("the last week", x.count(0), 400);
        C.due("years", x.count(10), 7);
        C.due("to save in it", x.save(0, 5), 5);
    }

    private static void cost() {
        Bond x = two();
        x.save(0, 1000);
        C.due("the least", x.cost(1), 999);
        C.due("the reserve", x.count(4), -1);
        C.refused("0", x, () -> x.cost(0), -7, -7);
        C.refused("below 0", x, () -> x.cost(-1), -7, -7);
        C.refused("100000", x, () -> x.cost(100000), -7, -7);
        C.refused("more than cash", x, () -> x.cost(1000), -2, -2);
        C.due("all", x.cost(999), 0);
        C.due("the reserve then", x.count(4), -1000);
        C.due("saved stays", x.saved(0, 0, 0), 1000);
        x.save(0, 99999);
        C.due("the most", x.cost(99999), 0);
    }

    /** Member 0 saves 3000, member 1 1000; member 1 is lent 1000 for 10 weeks at a rate and pays it all. */
    private static Bond earning(int rate) {
        Bond x = two();
        Check.rule(x, "rate " + rate);
        x.save(0, 3000);
        x.save(1, 1000);
        x.ask(10, 1000, 10);
        x.answer(0);
        x.pay(0, 1000 + rate);
        return x;
    }

    private static void surplus() {
        Bond x = earning(97);
        C.refused("no year yet", x, () -> x.year(0, 0), 0, -3);
        C.refused("nor of a member", x, () -> x.got(0, 0, 0), 0, -3);
        x.run(51);
        C.due("not yet", x.count(10), 0);
        C.due("the year closes", x.run(1), 0);
        C.due("closed", x.count(10), 1);
        // 97: 19 to the reserve, 78 left, 39 dividend by 156000 : 52000, 39 rebate to member 1.
        long[] year = {97, 0, 97, 19, 39, 39, 0};
        for (int what = 0; what < 7; what++) {
            C.due("year " + what, x.year(0, what), year[what]);
        }
        long[] first = {29, 0, 156000, 0, 156000, 29};
        long[] second = {10, 39, 52000, 97, 52000, 10};
        for (int what = 0; what < 6; what++) {
            C.due("got by member 0: " + what, x.got(0, 0, what), first[what]);
            C.due("got by member 1: " + what, x.got(0, 1, what), second[what]);
        }
        C.due("reserve", x.count(4), 19);
        C.due("cash is as it was", x.count(3), 4097);
        C.due("entries of the next week", x.saved(0, 52, 52), 3029);
        C.due("not of the last one", x.saved(0, 51, 52), 3000);
        C.due("told in it", x.saved(0, 52, 51), 3000);
        C.due("one entry for both", x.count(2), 4);
        C.due("rebate too", x.saved(1, 52, 52), 1049);
        C.due("no act", x.look(0, 8), 0);
        C.refused("what -1", x, () -> x.year(0, -1), 0, -7);
        C.refused("what 7", x, () -> x.year(0, 7), 0, -7);
        C.refused("year 1", x, () -> x.year(1, 0), 0, -3);
        C.refused("year -1", x, () -> x.year(-1, 7), 0, -3);
        C.refused("got: what -1", x, () -> x.got(0, 0, -1), 0, -7);
        C.refused("got: what 6", x, () -> x.got(0, 0, 6), 0, -7);
        C.refused("got: year 1", x, () -> x.got(1, 0, 0), 0, -3);
        C.refused("got: year -1", x, () -> x.got(-1, 0, 6), 0, -3);
        C.refused("got: nobody", x, () -> x.got(0, 2, 0), 0, -3);
        C.refused("got: member -1", x, () -> x.got(0, -1, 6), 0, -3);
        x.member(3, 3);
        C.due("a later member got nothing", x.got(0, 2, 0), 0);
        C.due("nor had it share-weeks", x.got(0, 2, 4), 0);
        x.save(0, 1);
        C.due("the same entry", x.count(2), 4);
    }

    private static void bounds() {
        Bond x = earning(97);
        Check.rule(x, "reserve 101");
        Check.rule(x, "div 5");
        x.run(52);
        C.due("all to the reserve", x.year(0, 3), 97);
        C.due("no dividend", x.year(0, 4), 0);
        C.due("no rebate", x.year(0, 5), 0);
        C.due("no entries", x.count(2), 2);
        Bond y = earning(97);
        Check.rule(y, "reserve 0 - week");
        Check.rule(y, "div 100 + week");
        y.run(52);
        C.due("nothing to the reserve", y.year(0, 3), 0);
        C.due("all is dividend", y.year(0, 4), 97);
        C.due("no rebate", y.year(0, 5), 0);
        Bond z = earning(97);
        Check.rule(z, "reserve week");
        Check.rule(z, "div cash / 100");
        z.run(52);
        C.due("51 hundredths, of the week that closes", z.year(0, 3), 49);
        C.due("40 hundredths of 48", z.year(0, 4), 19);
        C.due("the rest", z.year(0, 5), 29);
        Bond w = earning(97);
        Check.rule(w, "div 0 - 1");
        w.run(52);
        C.due("0 at least", w.year(0, 4), 0);
        C.due("all is rebate", w.year(0, 5), 78);
    }

    private static void rests() {
        Bond x = new Bond();
        for (int i = 0; i < 4; i++) {
            x.member(i, 0);
        }
        Check.rule(x, "reserve 0");
        Check.rule(x, "div 100");
        Check.rule(x, "rate 10");
        for (int i = 0; i < 3; i++) {
            x.save(i, 2000);
        }
        x.save(3, 1000);
        x.ask(0, 1000, 10);
        x.answer(0);
        x.pay(0, 1010);
        x.run(52);
        // 10 by 2 : 2 : 2 : 1: 2, 2, 2 with rests of 6/7, and 1 with 3/7: the 3 left go to the first three.
        int[] due = {3, 3, 3, 1};
        for (int i = 0; i < 4; i++) {
            C.due("dividend of " + i, x.got(0, i, 0), due[i]);
        }
        Bond y = new Bond();
        for (int i = 0; i < 4; i++) {
            y.member(i, 0);
            y.save(i, i == 2 ? 2000 : 1000);
        }
        Check.rule(y, "reserve 0");
        Check.rule(y, "div 100");
        y.ask(0, 800, 10);
        y.answer(0);
        y.pay(0, 808);
        y.run(52);
        // 8 by 1 : 1 : 2 : 1: 1, 1, 3, 1 with rests 3/5, 3/5, 1/5, 3/5: the 2 left go to 0 and 1.
        int[] like = {2, 2, 3, 1};
        for (int i = 0; i < 4; i++) {
            C.due("of like rests the least member, " + i, y.got(0, i, 0), like[i]);
        }
    }

    private static void withoutParts() {
        Bond x = new Bond();
        x.member(1, 1);
        x.save(0, 1000);
        x.ask(0, 1000, 10);
        x.answer(0);
        x.pay(0, 1010);
        x.draw(0, 1000);
        x.run(52);
        C.due("to the reserve first", x.year(0, 3), 2);
        C.due("dividend", x.year(0, 4), 4);
        C.due("nobody gets it", x.got(0, 0, 0), 0);
        C.due("no share-weeks", x.got(0, 0, 2), 0);
        C.due("rebate", x.got(0, 0, 1), 4);
        C.due("the dividend comes to the reserve", x.count(4), 6);
        C.due("nobody would get it", x.got(0, 0, 5), 0);
        C.due("saved", x.saved(0, 52, 52), 4);
        Bond y = two();
        y.run(52);
        C.due("a year of nothing", y.year(0, 2), 0);
        C.due("reserve", y.count(4), 0);
        C.due("no entries", y.count(2), 0);
    }

    private static void earnedOnce() {
        Bond x = two();
        x.save(0, 5000);
        Check.rule(x, "rate 100");
        x.ask(10, 1000, 60);
        x.ask(0, 500, 4);
        x.answer(0);
        x.answer(1);
        // Interest 600 and 20.
        C.due("paid", x.pay(0, 333), 1267);
        C.due("paid", x.pay(1, 77), 443);
        x.run(9);
        x.pay(0, 1000);
        x.pay(1, 443);
        x.run(43);
        // 1333 * 600 / 1600 = 499 and 20.
        C.due("earned of member 1", x.got(0, 1, 3), 499);
        C.due("earned of member 0", x.got(0, 0, 3), 20);
        C.due("earned", x.year(0, 0), 519);
        x.run(1);
        x.pay(0, 5);
        x.run(51);
        C.due("two years", x.count(10), 2);
        // 1338 * 600 / 1600 = 501.
        C.due("only what is new", x.got(1, 1, 3), 2);
        C.due("in all", x.year(1, 0), 2);
        C.due("nothing of member 0", x.got(1, 0, 3), 0);
        C.due("the loan failed", x.loanOf(0, 7), 2);
        // 103 of 519 to the reserve, 208 rebate: 200 of it for member 1, and of the 262 owed these are taken.
        C.due("lost of it", x.loanOf(0, 10), 62);
        C.due("lost in it", x.year(1, 1), 62);
        x.run(52);
        C.due("nothing more of one that failed", x.year(2, 0), 0);
        C.due("nor lost twice", x.year(2, 1), 0);
    }

    private static void lostYear() {
        Bond y = two();
        y.save(0, 2000);
        y.cost(5);
        y.run(38);
        y.ask(10, 1000, 1);
        y.answer(0);
        C.due("12 weeks late", y.run(13), 0);
        C.due("the thirteenth in week 51", y.run(1), 1);
        C.due("lost", y.year(0, 1), 1001);
        C.due("the surplus", y.year(0, 2), -1001);
        for (int what = 3; what < 6; what++) {
            C.due("nothing", y.year(0, what), 0);
        }
        C.due("the reserve is less by it", y.count(4), -1006);
        C.due("no one gets a thing", y.count(2), 1);
        Bond z = two();
        z.save(0, 2000);
        z.run(39);
        z.ask(10, 1000, 1);
        z.answer(0);
        C.due("not in this year", z.run(13), 0);
        C.due("nothing lost", z.year(0, 1), 0);
        C.due("in the next one", z.run(1), 1);
        z.run(51);
        C.due("lost then", z.year(1, 1), 1001);
    }

    private static void shareWeeks() {
        Bond x = two();
        x.save(0, 100);
        x.save(1, 1000);
        x.run(10);
        x.found(0, 9, -150);
        C.due("below 0", x.saved(0, 10, 10), -50);
        x.run(10);
        x.save(0, 60);
        x.run(31);
        x.save(0, 1);
        x.run(1);
        // 10 weeks of 100, 10 of nothing, 31 of 10 and one of 11.
        C.due("as it closed", x.got(0, 0, 2), 1000 + 310 + 11);
        // Week 9 alone is otherwise: 100 less 150 is below 0.
        C.due("as known now", x.got(0, 0, 4), 900 + 310 + 11);
        C.due("the other", x.got(0, 1, 2), 52000);
        x.save(0, 5);
        C.due("later weeks are nothing to it", x.got(0, 0, 4), 1221);
        x.run(52);
        C.due("the next year", x.got(1, 0, 2), 16 * 52);
        C.due("known now", x.got(1, 0, 4), 16 * 52);
        x.found(0, 0, 7);
        C.due("later years know it too", x.got(1, 0, 4), 23 * 52);
        C.due("the first year known now", x.got(0, 0, 4), 9 * 107 + 0 + 31 * 17 + 18);
        C.due("as it closed, it stays", x.got(1, 0, 2), 16 * 52);
        failed();
    }

    private static void failed() {
        Bond x = two();
        x.save(0, 1000);
        x.ask(0, 500, 1);
        x.answer(0);
        x.run(52);
        // It fails as week 13 closes, and takes 500 ahead of the counting: 13 weeks of 1000, 39 of 500.
        C.due("share-weeks behind the failure", x.got(0, 0, 2), 13 * 1000 + 39 * 500);
        C.due("known now", x.got(0, 0, 4), 13 * 1000 + 39 * 500);
    }

    private static void reworked() {
        Bond x = earning(97);
        x.run(52);
        C.due("as it was", x.got(0, 1, 5), 10);
        x.found(1, 0, 2000);
        C.due("share-weeks as known now", x.got(0, 1, 4), 156000);
        C.due("would have got, the first", x.got(0, 0, 5), 20);
        C.due("would have got, the second", x.got(0, 1, 5), 19);
        C.due("got", x.got(0, 1, 0), 10);
        x.found(0, 51, -3000);
        C.due("51 weeks", x.got(0, 0, 4), 153000);
        x.found(0, 0, -29);
        x.member(3, 3);
        x.found(2, 50, 1000);
        C.due("one that came later", x.got(0, 2, 4), 2000);
        C.due("it would have got", x.got(0, 2, 5), 0);
        x.found(2, 0, 99999);
        C.due("or so much", x.got(0, 2, 5), 37);
        C.due("void or not", x.got(0, 1, 5), 1);
        Bond y = earning(97);
        y.run(52);
        C.due("all of it", y.got(0, 0, 5) + y.got(0, 1, 5), 39);
        y.found(0, 0, -3000);
        y.found(1, 0, -1000);
        C.due("no share-weeks are left", y.got(0, 0, 4) + y.got(0, 1, 4), 0);
        C.due("then nobody would get it", y.got(0, 0, 5), 0);
        C.due("nobody at all", y.got(0, 1, 5), 0);
    }

    private static void voided() {
        Bond none = two();
        C.refused("no year is closed", none, () -> none.voided(), -7, -7);
        Bond x = earning(97);
        x.run(52);
        C.due("entries", x.count(2), 4);
        x.draw(0, 3000);
        x.run(1);
        C.due("saved", x.saved(0, 53, 53), 29);
        C.due("void", x.voided(), 78);
        C.due("taken", x.saved(0, 53, 53), 0);
        C.due("taken now", x.saved(0, 52, 53), 29);
        C.due("of the other", x.saved(1, 53, 53), 1000);
        C.due("the reserve gets it", x.count(4), 97);
        C.due("new entries", x.count(2), 6);
        C.due("it is void", x.year(0, 6), 1);
        C.due("what was got stays told", x.got(0, 1, 1), 39);
        C.refused("twice", x, () -> x.voided(), -7, -7);
        x.run(51);
        C.due("the next year", x.count(10), 2);
        C.due("of nothing", x.voided(), 0);
        C.due("is void too", x.year(1, 6), 1);
        C.due("nothing is no entry", x.count(2), 6);
        Bond y = earning(97);
        y.run(52);
        y.draw(0, 3001);
        C.refused("one has less than it got", y, () -> y.voided(), -7, -7);
        y.save(0, 1);
        C.due("as much as it got", y.voided(), 78);
        Bond z = earning(97);
        z.run(52);
        z.found(0, 0, -3029);
        C.refused("less by a book that was found", z, () -> z.voided(), -7, -7);
        Bond last = earning(97);
        last.run(60);
        last.run(60);
        C.due("only the last one: of nothing", last.voided(), 0);
        C.due("the first stays", last.year(0, 6), 0);
        C.refused("the last is void", last, () -> last.voided(), -7, -7);
    }
}
