/** Promises 18 to 22: the tape, rules with their first fault, and what keys say. */
public final class RulesTest {
    private static final Check C = new Check("RulesTest");

    public static void main(String[] args) {
        feed();
        rule();
        faults();
        faultsOfDepth();
        values();
        names();
        says();
        force();
        C.end();
    }

    private static Bond one() {
        Bond x = new Bond();
        x.member(1, 2);
        return x;
    }

    private static void feed() {
        Bond x = one();
        C.due("none", x.feed(12345, 0), 0);
        // "rate" and of "xx7 " the two lowest.
        C.due("four bytes, the highest first", x.feed(0x72617465, 4), 4);
        C.due("the lowest of them", x.feed(0x78782037, 2), 6);
        C.due("bytes", x.count(9), 6);
        C.due("a rule", x.rule(0, 1000), 0);
        C.due("it says", x.says(2, -1), 7);
        C.refused("below 0", x, () -> x.feed(1, -1), -4, -4);
        C.refused("five", x, () -> x.feed(1, 5), -7, -7);
        for (int i = 1; i <= 29; i++) {
            C.due("feed", x.feed(-1, 4), 4 * i);
        }
        C.due("119", x.feed(0, 3), 119);
        C.refused("121", x, () -> x.feed(0, 2), -8, -8);
        C.refused("123", x, () -> x.feed(0, 4), -8, -8);
        C.refused("BELOW ahead of FULL", x, () -> x.feed(1, Integer.MIN_VALUE), -4, -4);
        C.refused("NO ahead of FULL", x, () -> x.feed(1, Integer.MAX_VALUE), -7, -7);
        C.due("120", x.feed(0, 1), 120);
        C.refused("121 again", x, () -> x.feed(0, 1), -8, -8);
        C.due("none more", x.feed(0, 0), 120);
        C.due("wipe", x.wipe(), 120);
        C.due("it is empty", x.wipe(), 0);
        C.due("none", x.count(9), 0);
    }

    private static void rule() {
        Bond x = one();
        Check.feed(x, "rate 20");
        C.refused("from like to", x, () -> x.rule(5, 5), -7, -7);
        C.refused("from behind to", x, () -> x.rule(6, 5), -7, -7);
        C.refused("from -1", x, () -> x.rule(-1, 5), -7, -7);
        C.refused("to 1001", x, () -> x.rule(0, 1001), -7, -7);
        C.refused("both far out", x, () -> x.rule(Integer.MIN_VALUE, Integer.MAX_VALUE), -7, -7);
        C.due("the tape stays", x.count(9), 7);
        C.due("the first", x.rule(0, 1000), 0);
        C.due("the tape is empty", x.count(9), 0);
        C.due("an empty one", x.rule(0, 1), -10);
        Check.feed(x, "rate");
        C.due("its end", x.rule(0, 1), -14);
        C.due("the tape stays", x.count(9), 4);
        C.due("a fault is no refusal", x.status(-8) + x.status(-7), 5);
        Check.feed(x, " 21");
        C.due("mended", x.rule(999, 1000), 1);
        for (int i = 2; i < 12; i++) {
            C.due("rule", Check.rule(x, "bond 1"), i);
        }
        C.due("how many", x.count(8), 12);
        Check.feed(x, "bond");
        C.refused("a thirteenth", x, () -> x.rule(0, 1), -8, -8);
        C.refused("NO ahead of FULL", x, () -> x.rule(1, 1), -7, -7);
    }

    private static void fault(String text, int place) {
        Bond x = one();
        Check.feed(x, text);
        long[] before = Look.all(x);
        C.due("fault of '" + text + "'", x.rule(0, 10), -10 - place);
        C.so("a fault changes nothing", java.util.Arrays.equals(before, Look.all(x)));
        for (int by = -8; by <= -2; by++) {
            C.due("status", x.status(by), 0);
        }
    }

    private static void well(String text) {
        C.due("'" + text + "'", Check.rule(one(), text), 0);
    }

    private static void faults() {
        fault("", 0);
        fault("   ", 3);
        fault("x", 0);
        fault(" bonds 1", 1);
        fault("saved 1", 0);
        fault("if 1", 0);
        fault("12 1", 0);
        fault("(bond 1)", 0);
        fault("bond", 4);
        fault("bond ", 5);
        fault("bond 1 2", 7);
        fault("bond 1 saved", 7);
        fault("bond bond", 5);
        fault("bond 1 if", 9);
        fault("bond 1 if 2 if 3", 12);
        fault("bond if 1", 5);
        fault("bond +", 5);
        fault("bond 1 +", 8);
        fault("bond 1 + * 2", 9);
        fault("bond 1 ++ 2", 8);
        fault("bond 1 not 2", 7);
        fault("bond 1 + not 2", 9);
        fault("bond 1 and", 10);
        fault("bond 1 and or 2", 11);
        fault("bond 1 = 2 = 3", 11);
        fault("bond 1 < 2 > 3", 11);
        fault("bond 1 = not 2", 9);
        fault("bond ()", 6);
        fault("bond (1", 7);
        fault("bond (1 if 2)", 8);
        fault("bond 1)", 6);
        fault("bond (1))", 8);
        fault("bond 100000", 5);
        fault("bond 000001", 5);
        fault("bond 1 100000", 7);
        fault("bond 1 + x", 9);
        fault("bond 1 xyz", 7);
        fault("bond ~1", 5);
        fault("bond 1\n", 6);
        fault("bond\t1", 4);
        fault("bond A", 5);
        fault("bond 1;", 6);
        fault("bond " + (char) 233, 5);
        fault("bond 1 " + (char) 0, 7);
        fault("bondif", 0);
        fault("bond 1 andnot 2", 7);
        fault("bond 1 x", 7);
        fault("bond - ", 7);
        fault("bond 1 if saved > ", 18);
        well("bond1");
        well("bond 99999if 00001");
        well("  bond  1  ");
        well("bond-1");
        well("bond(1)if(2)");
        well("bond not 1 = 2");
        well("bond 1 = 2 and 3 = 4 or not 5 < 6");
        well("bond 1--1");
        well("bond 1 - - - 1");
    }

    private static void faultsOfDepth() {
        fault("bond (((((((1", 11);
        fault("bond ------- 1", 11);
        fault("bond not not not not not not not 1", 29);
        fault("bond ((- not (- (1", 9);
        fault("bond ((-(not (- (1)))))", 14);
        fault("bond not not (- - (- 1))", 19);
        fault("bond ((((((not 1))))))", 11);
        fault("bond ((((((- 1))))))", 11);
        fault("bond not not not (((- 1)))", 20);
        fault("bond 1 if (((((((1)))))))", 16);
        well("bond ((((((1))))))");
        well("bond ------ 1");
        well("bond not not not not not not 1");
        well("bond not not (- - (1))");
        well("bond ((((((1)))))) + ((((((2))))))");
        well("bond ------1------1");
        well("bond not not not not not not 1 and not not not not not not 1");
        // What a not opened ends with what stands behind it; so the ( of the sum's other side may stand.
        well("bond not not not not not not 1 or ((((((1))))))");
        well("bond (((((- 1 - (1))))))");
        well("bond not (- (((1))) + (((1))))");
        well("bond ((((((1)))))) if ((((((1))))))");
    }

    private static void value(String text, int want) {
        Bond x = one();
        C.due("read '" + text + "'", Check.rule(x, "limit " + text), 0);
        C.due("value of '" + text + "'", x.says(1, -1), want);
    }

    private static void values() {
        value("7", 7);
        value("1 + 2 * 3", 7);
        value("(1 + 2) * 3", 9);
        value("10 - 3 - 2", 5);
        value("100 / 7 / 2", 7);
        value("100 % 7 * 2", 4);
        value("- 7 / 2", -3);
        value("- 7 % 2", -1);
        value("7 / - 2", -3);
        value("- (7 / 2)", -3);
        value("7 / 0", 0);
        value("7 % 0", 0);
        value("0 / 0", 0);
        value("- 2 + 3", 1);
        value("2 - - 3", 5);
        value("2 * - 3", -6);
        value("- - 3", 3);
        value("not 0", 1);
        value("not 5", 0);
        value("not not 5", 1);
        value("not 1 = 2", 1);
        value("not 0 + 1", 0);
        value("2 = 2", 1);
        value("2 < 2", 0);
        value("1 < 2", 1);
        value("2 > 2", 0);
        value("3 > 2", 1);
        value("- 1 < 1", 1);
        value("1 + 1 = 4 - 2", 1);
        value("5 and 7", 1);
        value("5 and 0", 0);
        value("0 or 7", 1);
        value("0 or 0", 0);
        value("1 or 0 and 0", 1);
        value("(1 or 0) and 0", 0);
        value("0 and 0 or 1", 1);
        value("- 1 and - 2", 1);
        value("(1 = 1) + (2 = 2)", 2);
        value("65536 * 32768", Integer.MIN_VALUE);
        value("65536 * 32768 - 1", Integer.MAX_VALUE);
        value("- (65536 * 32768)", Integer.MIN_VALUE);
        value("65536 * 32768 / - 1", Integer.MIN_VALUE);
        value("65536 * 32768 % - 1", 0);
        value("65536 * 65536", 0);
        value("99999 * 99999", (int) (99999L * 99999L));
        value("00012", 12);
    }

    private static void name(Bond x, String text, int who, int want) {
        C.so("read", Check.rule(x, "limit " + text, x.count(0), x.count(0) + 1) >= 0);
        C.due(text + " of " + who, x.says(1, who), want);
    }

    private static void names() {
        Bond x = new Bond();
        x.member(0, 0);
        x.run(3);
        x.member(7, 8);
        x.save(1, 4000);
        x.ask(12, 1000, 2);
        x.answer(0);
        x.ask(10, 500, 5);
        x.answer(1);
        x.ask(14, 77, 5);
        x.run(2);
        x.pay(0, 1);
        // Interest 1 and 2, paid 1: owed 1502. Late is the first one, and the second as well.
        String[] all = {"work", "street", "saved", "owed", "joined", "late", "kind", "sum", "week", "cash"};
        int[] ofMember = {7, 8, 4000, 1502, 3, 2, 0, 0, 5, 2501};
        int[] ofAsk = {7, 8, 4000, 1502, 3, 2, 4, 77, 5, 2501};
        int[] ofNone = {0, 0, 0, 0, 0, 0, 0, 0, 5, 2501};
        for (int i = 0; i < 10; i++) {
            name(x, all[i], 1, ofMember[i]);
            C.due(all[i] + " of an ask", x.says(1, 102), ofAsk[i]);
            C.due(all[i] + " of none", x.says(1, -1), ofNone[i]);
        }
        C.due("sum of the first ask", x.says(1, 100), 2501);
        C.due("how many rules", x.count(8), 10);
    }

    private static void says() {
        Bond x = one();
        int[] first = {1, 5000, 10, 20, 50, 0};
        for (int key = 0; key < 6; key++) {
            C.due("without a rule", x.says(key, 0), first[key]);
            C.due("none says it", x.why(key, 0), -1);
        }
        String[] keys = {"bond", "limit", "rate", "reserve", "div", "dormant"};
        for (int key = 0; key < 6; key++) {
            C.due("rule", Check.rule(x, keys[key] + " 7" + key), key);
        }
        for (int key = 0; key < 6; key++) {
            C.due("with a rule", x.says(key, -1), 70 + key);
            C.due("which", x.why(key, -1), key);
        }
        x.ask(5, 1, 1);
        C.due("of an ask", x.says(0, 100), 70);
        C.refused("key -1", x, () -> x.says(-1, 0), 0, -3);
        C.refused("key 6", x, () -> x.says(6, 0), 0, -3);
        C.refused("who -2", x, () -> x.says(0, -2), 0, -3);
        C.refused("no such member", x, () -> x.says(0, 1), 0, -3);
        C.refused("who 16", x, () -> x.says(0, 16), 0, -3);
        C.refused("who 99", x, () -> x.says(0, 99), 0, -3);
        C.refused("no such ask", x, () -> x.says(0, 101), 0, -3);
        C.refused("far out", x, () -> x.says(0, Integer.MAX_VALUE), 0, -3);
        C.refused("why: key 6", x, () -> x.why(6, 0), -3, -3);
        C.refused("why: key -1", x, () -> x.why(-1, 0), -3, -3);
        C.refused("why: no such member", x, () -> x.why(0, 1), -3, -3);
        C.refused("why: no such ask", x, () -> x.why(0, 101), -3, -3);
        C.refused("why: far out", x, () -> x.why(0, Integer.MIN_VALUE), -3, -3);
    }

    private static void force() {
        Bond x = one();
        C.due("always", Check.rule(x, "rate 1", 0, 1000), 0);
        C.due("in weeks 2 and 3", Check.rule(x, "rate 2", 2, 4), 1);
        C.due("in week 3, if", Check.rule(x, "rate 3 if work = 1", 3, 4), 2);
        C.due("of another key", Check.rule(x, "limit 4", 0, 1000), 3);
        int[] member = {1, 1, 2, 3, 1};
        int[] none = {1, 1, 2, 2, 1};
        for (int w = 0; w < 5; w++) {
            C.due("member, week " + w, x.says(2, 0), member[w]);
            C.due("which, week " + w, x.why(2, 0), member[w] - 1);
            C.due("none, week " + w, x.says(2, -1), none[w]);
            C.due("which of none, week " + w, x.why(2, -1), none[w] - 1);
            x.run(1);
        }
        C.due("an if below 0 holds", Check.rule(x, "rate 9 if - 1"), 4);
        C.due("it says", x.says(2, 0), 9);
        C.due("an if of 0 doesn't", Check.rule(x, "rate 8 if 1 / 0"), 5);
        C.due("the one ahead says", x.why(2, 0), 4);
    }
}
