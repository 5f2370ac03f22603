/** Each sentence of "Terms", part 3, and of promises 18 to 22 that names a boundary. */
public final class BoundsOfRulesTest {
    private static final Sentences S = new Sentences("BoundsOfRulesTest");

    public static void main(String[] args) {
        rules();
        tape();
        force();
        tokens();
        words();
        grammar();
        parts();
        ints();
        truth();
        faults();
        open();
        keys();
        names();
        promise18();
        promises19And20();
        promises21And22();
        S.end();
    }

    /** The answers of rule() to these texts, each on a new object: -10 less the FAULT, or 0. */
    private static void read(String sentence, Object... textsAndAnswers) {
        for (int i = 0; i < textsAndAnswers.length; i += 2) {
            String text = (String) textsAndAnswers[i];
            int answer = (Integer) textsAndAnswers[i + 1];
            // What can't be read stays on the tape.
            S.of(sentence + " '" + text + "'", "rule '" + text + "' 0 1000 = " + answer,
                "count 8 = " + (answer == 0 ? 1 : 0), "count 9 = " + (answer == 0 ? 0 : text.length()));
        }
    }

    /** What limit says by these E's, of none in week 0. */
    private static void value(String sentence, Object... textsAndValues) {
        for (int i = 0; i < textsAndValues.length; i += 2) {
            S.of(sentence + " '" + textsAndValues[i] + "'", "rule 'limit " + textsAndValues[i] + "' 0 1000 = 0",
                "says 1 -1 = " + textsAndValues[i + 1]);
        }
    }

    private static String times(int n, String text) {
        return text.repeat(n);
    }

    private static void rules() {
        S.of("RULES 0 .. 11 as they come; rule: its number, FULL",
            "why 0 -1 = NONE; rule 'bond 5' 0 9 = 0; rule 'bond 6' 0 9 = 1; 9 x rule 'bond 7' 0 9; count 8 = 11",
            "rule 'bond 8' 0 9 = 11; says 0 -1 = 8; why 0 -1 = 11; rule 'bond 9' 0 9 ! FULL; says 0 -1 = 8",
            "count 8 = 12");
    }

    private static void tape() {
        S.of("THE TAPE (bytes, 120 at most)",
            "29 x feed 0 4; feed 0 4 = 120; feed 0 1 ! FULL; feed 0 4 ! FULL; feed 0 0 = 120; wipe = 120",
            "feed 0 1 = 1; wipe = 1; 29 x feed 0 4; feed 0 3 = 119; feed 0 2 ! FULL; feed 0 3 ! FULL; feed 0 1 = 120",
            "count 9 = 120");
        S.of("RULES are read from THE TAPE: all 120 bytes of it", "rule 'limit" + times(57, "+1") + "' 0 9 = -15",
            "rule 'limit 1" + times(56, "+1") + " ' 0 9 = 0; says 1 -1 = 57");
        S.of("RULES are read from THE TAPE: many as long as can be",
            "rule 'rate 1" + times(57, "+1") + "' 0 9 = 0; says 2 -1 = 58",
            "rule 'rate 2" + times(56, "+1") + "+' 0 9 = -129",
            "rule 'rate 2" + times(57, "-1") + "' 0 9 = 1; says 2 -1 = -55",
            "rule 'rate 3" + times(57, "*2") + "' 0 9 = 2", "says 2 -1 = 0; why 2 -1 = 2");
        S.of("RULES are read from THE TAPE: not what stood there ahead of wipe()",
            "rule 'bond 1 if 0' 0 9 = 0; rule 'bond 2 x' 0 9 = -17; wipe = 8; rule 'bond 3' 0 9 = 1; says 0 -1 = 3");
        S.of("RULES are read from THE TAPE: not what stood behind its end",
            "rule 'rate 12345' 0 9 = 0; rule 'rate 12' 0 9 = 1; says 2 -1 = 12; rule 'rat' 0 9 = -10",
            "rule 'rate' 0 9 = -14; rule 'rate street x' 0 9 = -22; wipe; rule 'rate stree' 0 9 = -15",
            "rule 'rate (((1)))' 0 9 = 2; rule 'rate (((1))' 0 9 = -21");
    }

    private static void force() {
        S.of("RULES: in force in WEEKS from one on, ahead of another one",
            "rule 'rate 7' 2 4 = 0; why 2 -1 = NONE; run 1; why 2 -1 = NONE; says 2 -1 = 10; run 1; why 2 -1 = 0",
            "says 2 -1 = 7; run 1; why 2 -1 = 0; run 1; why 2 -1 = NONE; says 2 -1 = 10; run 1; why 2 -1 = NONE",
            "run 60; why 2 -1 = NONE");
        S.of("RULES in force: in one WEEK alone",
            "rule 'rate 7' 1 2 = 0; why 2 -1 = NONE; run 1; why 2 -1 = 0; run 1; why 2 -1 = NONE");
        S.of("RULES in force: WEEKS (0 .. 1000)",
            "rule 'rate 7' -1 5 ! NO; rule 'rate 7' MIN 5 ! NO; rule 'rate 7' 0 1001 ! NO; rule 'rate 7' 0 MAX ! NO",
            "rule 'rate 7' 1000 1001 ! NO; rule 'rate 7' MIN MAX ! NO; rule 'rate 7' -2 -1 ! NO",
            "rule 'rate 7' 0 1000 = 0; rule 'rate 8' 999 1000 = 1; says 2 -1 = 7");
        S.of("rule: NO: from is not ahead of to",
            "rule 'rate 7' 5 5 ! NO; rule 'rate 7' 6 5 ! NO; rule 'rate 7' 1000 1000 ! NO; rule 'rate 7' 1000 0 ! NO",
            "rule 'rate 7' 0 0 ! NO; count 9 = 6; rule 0 1 = 0");
        S.of("RULES in force: in the last WEEK there is",
            "6 x run 60; run 39; rule 'rate 7' 400 401 = 0; rule 'div 7' 399 400 = 1; why 2 -1 = NONE; why 4 -1 = 1",
            "run 1; why 2 -1 = 0; why 4 -1 = NONE");
    }

    private static void tokens() {
        read("TOKENS, each as long as can be:", "bondx 1", -10, "xbond 1", -10, "bond workx", -15,
            "bond workwork", -15, "bond 1 ifx", -17, "bond 12 3", -18, "bond1", 0, "bond1if2", 0, "bond 1or2", 0,
            "bond not1", 0, "bond notwork", -15, "bond work1", -19, "bond 1 andwork", -17);
        read("NUMBERS (digits, 5 at most):", "bond 9", 0, "bond 99999", 0, "bond 00000", 0, "bond 100000", -15,
            "bond 000001", -15, "bond 1 + 123456", -19, "bond 12345678901234567890", -15, "bond 1 if 123456", -20);
        value("NUMBERS (digits, 5 at most)", "0", 0, "99999", 99999, "00009", 9, "1234567890".substring(0, 5), 12345);
        read("blanks (32) may stand between:", "  bond   1  ", 0, "bond 1 if 1", 0, "bond(1)*(2)", 0,
            "bond ( 1 ) * ( 2 )", 0, "bo nd 1", -10, "bond 1 2", -17, "bond 1 i f 1", -17);
        read("no other byte may stand between:", "bond\t1", -14, "bond\n1", -14, "bond 1\u0000", -16,
            "bond 1\u001f", -16, "bond 1\u0021", -16, "bond 1\u00a0", -16);
    }

    private static void words() {
        read("WORDS (a .. z):", "`bond 1", -10, "bond{ 1", -14, "Bond 1", -10, "bonD 1", -10, "bondz 1", -10,
            "abond 1", -10, "bond A", -15, "bond Z", -15, "bond @", -15, "bond [", -15);
        read("digits are 0 .. 9:", "bond 0", 0, "bond 9", 0, "bond :", -15, "bond /", -15, "bond 1:", -16);
        read("SIGNS ( ) + - * / % = < > and no other:", "bond (1)+1-1*1/1%1=1", 0, "bond 1<1", 0, "bond 1>1", 0,
            "bond 1&1", -16, "bond 1,1", -16, "bond 1.1", -16, "bond 1;1", -16, "bond 1?1", -16, "bond 1!1", -16,
            "bond 1^1", -16, "bond 1#", -16, "bond 1$", -16, "bond 1|1", -16, "bond 1~1", -16, "bond 1\u007f", -16,
            "bond 1\u0080", -16, "bond 1\u00ff", -16, "bond \"1", -15, "bond 1_1", -16, "bond 1]", -16, "bond 1}", -16);
        read("KEYS: bond limit rate reserve div dormant:", "bond 1", 0, "limit 1", 0, "rate 1", 0, "reserve 1", 0,
            "div 1", 0, "dormant 1", 0, "rates 1", -10, "rat 1", -10, "dormantx 1", -10, "reserv 1", -10,
            "work 1", -10, "if 1", -10, "not 1", -10, "1", -10, "bondlimit 1", -10);
        read("NAMES: work street saved owed joined late kind sum week cash:", "bond work", 0, "bond street", 0,
            "bond saved", 0, "bond owed", 0, "bond joined", 0, "bond late", 0, "bond kind", 0, "bond sum", 0,
            "bond week", 0, "bond cash", 0, "bond weeks", -15, "bond wor", -15, "bond member", -15, "bond rate", -15,
            "bond dormant", -15, "bond bond", -15, "bond cas", -15, "bond o", -15, "bond n", -15);
        read("Other WORDS that stand: if or and not:", "bond 1 if 1", 0, "bond 1 or 1", 0, "bond 1 and 1", 0,
            "bond not 1", 0, "bond 1 xor 1", -17, "bond 1 i", -17, "bond 1 iff", -17, "bond no 1", -15,
            "bond nott 1", -15, "bond 1 an 1", -17);
    }

    private static void grammar() {
        read("RULE: KEY E, perhaps if E:", "", -10, "bond", -14, "bond if 1", -15, "bond 1 if", -19, "bond 1 if 1", 0,
            "bond 1 if 1 if 1", -22, "bond 1 bond 1", -17, "bond (1 if 1)", -18, "bond 1 if if", -20,
            "bond 1 if not 1 or 1", 0);
        read("E: AND { or AND }:", "bond 1 or 1 or 1", 0, "bond or", -15, "bond 1 or", -19, "bond 1 or or 1", -20,
            "bond or 1", -15);
        read("AND: NOT { and NOT }:", "bond 1 and 1 and 1", 0, "bond and 1", -15, "bond 1 and", -20,
            "bond 1 and or", -21, "bond 1 and not 1", 0, "bond 1 or not 1", 0);
        read("NOT: not NOT, or SUM, perhaps one of = < > and a SUM:", "bond not not 1", 0, "bond not", -18,
            "bond 1 = 1", 0, "bond 1 = 1 = 1", -21, "bond 1 < 1 < 1", -21, "bond 1 > 1 = 1", -21, "bond 1 =", -18,
            "bond = 1", -15, "bond 1 = not 1", -19, "bond 1 = (not 1)", 0, "bond 1 = < 1", -19, "bond 1 not 1", -17,
            "bond not 1 = 1", 0, "bond 1 = 1 and 1 < 1 or 1 > 1", 0, "bond (1 = 1) = 1", 0);
        read("SUM: TERM { + or - TERM }:", "bond 1 + 1 - 1", 0, "bond + 1", -15, "bond 1 +", -18, "bond 1 + + 1", -19,
            "bond 1 + - 1", 0, "bond 1 + not 1", -19, "bond 1 - or", -19);
        read("TERM: ONE { one of * / % ONE }:", "bond 1 * 1 / 1 % 1", 0, "bond * 1", -15, "bond 1 *", -18,
            "bond 1 * * 1", -19, "bond 1 * - 1", 0, "bond 1 / % 1", -19, "bond 1 * not 1", -19, "bond % 1", -15,
            "bond / 1", -15);
        read("ONE: a NUMBER, a NAME, - ONE, ( E ):", "bond (1)", 0, "bond ()", -16, "bond (1", -17, "bond 1)", -16,
            "bond )", -15, "bond (1 1)", -18, "bond (not 1 or 1)", 0, "bond - - 1", 0, "bond -", -16,
            "bond - not 1", -17, "bond - (1 = 1)", 0, "bond 1 (1)", -17, "bond work (1)", -20, "bond (1))", -18,
            "bond (bond)", -16, "bond (if)", -16);
    }

    private static void parts() {
        value("E: or is worked behind and", "1 or 0 and 0", 1, "0 and 0 or 1", 1, "(1 or 0) and 0", 0);
        value("AND: and is worked behind not", "not 0 and 0", 0, "not (0 and 0)", 1);
        value("NOT: not is worked behind =", "not 1 = 2", 1, "(not 1) = 2", 0, "not 0 = 0", 0);
        value("NOT: = is worked behind +", "1 + 1 = 2", 1, "3 = 2 + 1", 1, "1 + (1 = 2)", 1);
        value("SUM: + is worked behind *", "1 + 2 * 3", 7, "2 * 3 + 1", 7, "(1 + 2) * 3", 9, "9 - 6 / 3", 7);
        value("SUM: from the left on", "9 - 3 - 2", 4, "9 - (3 - 2)", 8, "9 - 3 + 2", 8);
        value("TERM: from the left on", "90 / 9 / 2", 5, "90 / (9 / 2)", 22, "17 % 9 * 2", 16, "2 * 17 % 9", 7,
            "7 / 2 * 2", 6);
        value("ONE: - goes ahead of *", "- 7 / 2", -3, "- 7 % 4", -3, "7 % - 4", 3, "2 - - 3", 5, "- - 3", 3,
            "- 2 + 3", 1);
    }

    private static void ints() {
        value("An E is an int (32 bits, wrapping): +", "32767 * 65536 + 65535", Integer.MAX_VALUE,
            "32767 * 65536 + 65535 + 1", Integer.MIN_VALUE);
        value("An E is an int (32 bits, wrapping): -", "- 32768 * 65536", Integer.MIN_VALUE,
            "- 32768 * 65536 - 1", Integer.MAX_VALUE, "- (32768 * 65536)", Integer.MIN_VALUE);
        value("An E is an int (32 bits, wrapping): *", "32768 * 65536", Integer.MIN_VALUE, "65536 * 65536", 0,
            "65537 * 65537", 131073, "99999 * 99999", 1409865409);
        value("An E is an int (32 bits, wrapping): / and %", "32768 * 65536 / - 1", Integer.MIN_VALUE,
            "32768 * 65536 % - 1", 0, "32768 * 65536 / 2", -1073741824);
        value("/ and % by 0 are 0", "7 / 0", 0, "7 % 0", 0, "0 / 0", 0, "0 % 0", 0, "- 7 / 0", 0, "7 / (1 - 1)", 0,
            "5 + 7 / 0", 5, "7 % week", 0);
        value("= < > as ints", "32768 * 65536 < 0", 1, "32767 * 65536 > 0", 1, "65536 * 65536 = 0", 1);
    }

    private static void truth() {
        value("or is 1 or 0 (what is not 0 is true)", "0 or 0", 0, "0 or 1", 1, "1 or 0", 1, "1 or 1", 1, "0 or 7", 1,
            "- 7 or 0", 1, "7 or - 7", 1, "1 or - 1", 1);
        value("and is 1 or 0", "0 and 0", 0, "0 and 1", 0, "1 and 0", 0, "1 and 1", 1, "7 and - 7", 1, "7 and 0", 0,
            "0 and 7", 0, "1 and - 1", 1, "1 and 2", 1, "2 and 4", 1);
        value("not is 1 or 0", "not 0", 1, "not 1", 0, "not 7", 0, "not - 1", 0, "not not 7", 1, "not not 0", 0);
        value("= is 1 or 0", "7 = 7", 1, "7 = 6", 0, "6 = 7", 0, "0 = 0", 1, "- 7 = 7", 0);
        value("< is 1 or 0", "6 < 7", 1, "7 < 7", 0, "8 < 7", 0, "- 1 < 0", 1, "0 < - 1", 0);
        value("> is 1 or 0", "8 > 7", 1, "7 > 7", 0, "6 > 7", 0, "- 1 > 0", 0, "0 > - 1", 1);
    }

    private static void faults() {
        read("FAULT: the first byte of the first TOKEN that can't stand there:", "  xyz", -12, "bond  1   xyz", -20,
            "bond 1 + * 2 xyz", -19, "bond  street  street", -24, "bond 1 if  rate", -21);
        read("FAULT: THE TAPE's size, if it ends too early:", "", -10, " ", -11, "bond", -14, "bond  ", -16,
            "bond 1 +", -18, "bond (1", -17, "bond ((1)  ", -21, "bond 1 if", -19, "bond 1 if ", -20,
            times(120, " "), -130);
        read("FAULT: also of a byte that begins none:", "?", -10, "bond ?", -15, "bond 1 ?", -17, "bond 1 + ?", -19);
        read("FAULT: also of a WORD that is none of these:", "bonds", -10, "bond x", -15, "bond 1 x", -17,
            "bond 1 + xx", -19);
        read("FAULT: also of a NUMBER that is too long:", "123456", -10, "bond 123456", -15, "bond 1 123456", -17);
    }

    private static void open() {
        read("FAULT of a ( while 6 of these are open:", "bond ((((((1))))))", 0, "bond (((((((1)))))))", -21,
            "bond ((((((1", -22, "bond (((((((1", -21, "bond ((((((1))))))*((((((1))))))", 0,
            "bond ((((((1)*(1)))))", -31, "bond 1 if ((((((1))))))", 0, "bond 1 if (((((((1)))))))", -26,
            "bond ((((((1)))))) if (((((((1)))))))", -38);
        read("FAULT of a not while 6 of these are open:", "bond not not not not not not 1", 0,
            "bond not not not not not not not 1", -39, "bond ((((((not 1))))))", -21, "bond (((((not 1)))))", 0,
            "bond not not not not not not 1 and not 1", 0, "bond not not not not not not 1 = 1 or not 1", 0,
            "bond (((((not 1 and not 1 or not 1)))))", 0);
        read("FAULT of a - ahead of a ONE while 6 of these are open:", "bond ------1", 0, "bond -------1", -21,
            "bond ((((((-1))))))", -21, "bond (((((-1)))))", 0, "bond ------1-1", 0, "bond ((((((1-1))))))", 0,
            "bond ------1*------1", 0, "bond (((((-1*-1--1)))))", 0);
        read("FAULT of these together, a ( till its ):", "bond (not -(not -1))", 0, "bond (not -(not -(1)))", -27,
            "bond not (not (not -1))", 0, "bond not not not ((-1))", 0, "bond not not not (((-1)))", -30,
            "bond not not not ((--1))", -30, "bond not not not (((1)))*((1))", 0, "bond not not not 1*((((1))))", -32,
            "bond not not not 1*(((1)))", 0);
        read("FAULT of these together, not and - till what they belong to ends:",
            "bond not not not not not (1)+(1)", 0, "bond not not not not not ((1))", -36,
            "bond not not not not not - 1", 0, "bond not not not not not - (1)", -37, "bond -(-(-(1)))", 0,
            "bond -(-(-((1))))", -21, "bond ---(1)*---(1)", 0, "bond not not not not not not 1 or ((((((1))))))", 0,
            "bond not not not not not not 1 < (1)", -43, "bond -----(1)+(-----1)", 0);
        value("not and - and ( : 6 are worked", "------1", 1, "-----1", -1, "not not not not not not 5", 1,
            "((((((5))))))", 5, "- (- (- (2)))", -2);
    }

    private static void keys() {
        S.of("Without one: bond 1, limit 5000, rate 10, reserve 20, div 50, dormant 0",
            "says 0 -1 = 1; says 1 -1 = 5000; says 2 -1 = 10; says 3 -1 = 20; says 4 -1 = 50; says 5 -1 = 0",
            "member 1 1; says 1 0 = 5000; ask 0 1 1; says 1 100 = 5000; why 0 -1 = NONE; why 5 0 = NONE",
            "why 2 100 = NONE");
        S.of("a KEY SAYS: the RULE of the greatest number in force with it",
            "rule 'rate 1' 0 9 = 0; rule 'rate 2' 0 9 = 1; rule 'rate 3' 1 9 = 2; rule 'div 4' 0 9 = 3; says 2 -1 = 2",
            "why 2 -1 = 1; says 4 -1 = 4; why 4 -1 = 3; says 3 -1 = 20; run 1; says 2 -1 = 3; why 2 -1 = 2");
        S.of("a KEY SAYS: of RULES whose if isn't 0 (or that have none)",
            "rule 'rate 1' 0 9; rule 'rate 2 if 0' 0 9; why 2 -1 = 0; rule 'rate 3 if 1' 0 9; why 2 -1 = 2",
            "rule 'rate 4 if - 1' 0 9; why 2 -1 = 3; rule 'rate 5 if 1 / 0' 0 9; why 2 -1 = 3; rule 'rate 6 if 2' 0 9",
            "says 2 -1 = 6; rule 'rate 0' 0 9; says 2 -1 = 0; why 2 -1 = 6");
        S.of("a KEY SAYS of an ASK, of a MEMBER, or of none: its if too",
            "member 0 0; member 5 0; ask 12 9 9; rule 'rate 1 if work = 5' 0 9; rule 'rate 2 if kind = 2' 0 9",
            "why 2 -1 = NONE; why 2 0 = NONE; why 2 1 = 0; why 2 100 = 1; says 2 -1 = 10; says 2 0 = 10; says 2 1 = 1",
            "says 2 100 = 2");
        S.of("a KEY SAYS in the open WEEK",
            "rule 'rate week' 0 1000; says 2 -1 = 0; run 60; says 2 -1 = 60; run 60; says 2 -1 = 120");
    }

    private static void names() {
        String two = "run 3; member 7 8; member 2 3; save 0 4000; ask 1 1000 2; answer 0 = 0; ask 14 77 5; run 2; ";
        S.of("NAMES: work",
            two + "rule 'rate work' 0 9; says 2 0 = 7; says 2 1 = 2; says 2 100 = 7; says 2 101 = 2; says 2 -1 = 0");
        S.of("NAMES: street",
            two + "rule 'rate street' 0 9; says 2 0 = 8; says 2 1 = 3; says 2 100 = 8; says 2 101 = 3; says 2 -1 = 0");
        S.of("NAMES: saved (now)",
            two + "rule 'rate saved' 0 9; says 2 0 = 4000; says 2 1 = 0; says 2 100 = 4000; says 2 -1 = 0",
            "found 0 0 -7; says 2 0 = 3993; found 1 0 5; says 2 101 = 5; found 1 0 -9; says 2 101 = -4");
        S.of("NAMES: owed (OWED by all its open LOANS)",
            two + "rule 'rate owed' 0 99; says 2 0 = 1003; says 2 1 = 0; says 2 100 = 1003; says 2 101 = 0",
            "says 2 -1 = 0; pay 0 4; says 2 0 = 999; run 13; loanOf 0 7 = 2; says 2 0 = 0");
        S.of("NAMES: joined",
            two + "member 1 1; rule 'rate joined' 0 9; says 2 0 = 3; says 2 2 = 5; says 2 100 = 3; says 2 -1 = 0");
        S.of("NAMES: late (how many of its LOANS are LATE)",
            two + "rule 'rate late' 0 99; says 2 0 = 1; says 2 1 = 0; says 2 100 = 1; says 2 -1 = 0; pay 0 501",
            "says 2 0 = 0; run 1; says 2 0 = 1; pay 0 502; says 2 0 = 0");
        S.of("NAMES: kind of the ASK; 0 where there is none",
            two + "rule 'rate kind + 50' 0 9; says 2 100 = 51; says 2 101 = 54; says 2 0 = 50; says 2 -1 = 50");
        S.of("NAMES: sum of the ASK; 0 where there is none",
            two + "rule 'rate sum + 50' 0 9; says 2 100 = 1050; says 2 101 = 127; says 2 0 = 50; says 2 -1 = 50");
        S.of("NAMES: week", two + "rule 'rate week' 0 9; says 2 100 = 5; says 2 0 = 5; says 2 -1 = 5");
        S.of("NAMES: cash",
            two + "rule 'rate cash' 0 9; says 2 100 = 3000; says 2 0 = 3000; says 2 -1 = 3000; cost 1",
            "says 2 -1 = 2999");
    }

    private static void promise18() {
        // 1651469924 is bond in bytes, 8241 a blank and a 1.
        S.of("feed: the n lowest bytes of a number, the highest of these first",
            "feed 1651469924 4 = 4; feed 8241 2 = 6; rule 0 9 = 0; feed 98 1 = 1; feed 7302756 3 = 4",
            "feed 538980401 1 = 5; rule 0 9 = 1; feed 1651469924 4; feed 8242 2; rule 0 9 = 2; says 0 -1 = 2");
        S.of("feed: n 0 .. 4",
            "feed 5 0 = 0; count 9 = 0; feed 5 4 = 4; feed -1 1 = 5; feed MIN 0 = 5; feed MAX 2 = 7; count 9 = 7");
        S.of("feed: BELOW: n", "feed 5 -1 ! BELOW; feed 5 MIN ! BELOW; feed -5 -1 ! BELOW");
        S.of("feed: NO: n", "feed 5 5 ! NO; feed 5 MAX ! NO; feed 0 8 ! NO");
        S.of("feed: BELOW and NO go ahead of FULL",
            "30 x feed 0 4; feed 5 -1 ! BELOW; feed 5 5 ! NO; feed 5 1 ! FULL; feed 5 0 = 120");
        S.of("feed: bytes of 128 and more are none that begin a TOKEN",
            "feed -1 4 = 4; rule 0 9 = -10; wipe; feed 1651469924 4; feed 8241 2; feed 177 1 = 7; rule 0 9 = -16");
    }

    private static void promises19And20() {
        S.of("wipe: THE TAPE is empty: how many bytes it had",
            "wipe = 0; feed 5 1; wipe = 1; wipe = 0; 30 x feed 0 4; wipe = 120; count 9 = 0; rule 0 9 = -10");
        S.of("rule: THE TAPE is empty then", "rule 'bond 1' 0 9 = 0; count 9 = 0; rule 0 9 = -10; wipe = 0");
        S.of("rule: -10 less the FAULT (THE TAPE stays); it is no refusal",
            "rule 'bond' 0 9 = -14; count 9 = 4; rule 0 9 = -14; feed 8241 2 = 6; rule 0 9 = 0; status -2 = 0",
            "status -3 = 0; status -4 = 0; status -5 = 0; status -6 = 0; status -7 = 0; status -8 = 0");
        S.of("rule: NO goes ahead of FULL, FULL ahead of the FAULT",
            "12 x rule 'bond 1' 0 9; rule 'bond' 9 9 ! NO; rule 'bond' -1 9 ! NO; rule 'bond' 0 9 ! FULL",
            "rule 'bond 1' 0 1001 ! NO; rule 'bond 1' 0 9 ! FULL; count 9 = 6; wipe = 6; rule 0 9 ! FULL");
        S.of("rule: NO goes ahead of the FAULT",
            "rule 'bond' 5 5 ! NO; rule 'bond' 0 1001 ! NO; rule 'bond' 0 1000 = -14; count 9 = 4");
    }

    private static void promises21And22() {
        S.of("says: key 0 .. 5; BEYOND: 0",
            "member 1 1; says -1 0 ! BEYOND; says 6 0 ! BEYOND; says MIN 0 ! BEYOND; says MAX -1 ! BEYOND",
            "says 0 0 = 1; says 5 0 = 0; says 5 -1 = 0");
        S.of("says: of a MEMBER (who 0 .. 15), of none (-1); BEYOND: 0",
            "says 0 0 ! BEYOND; says 0 -1 = 1; 15 x member 1 1; says 0 15 ! BEYOND; member 1 1; says 0 15 = 1",
            "says 0 0 = 1; says 0 16 ! BEYOND; says 0 99 ! BEYOND; says 0 -2 ! BEYOND; says 0 MIN ! BEYOND",
            "says 0 MAX ! BEYOND");
        S.of("says: of an ASK (100 + ASK); BEYOND: 0",
            "member 1 1; says 0 100 ! BEYOND; ask 0 1 1; says 0 100 = 1; says 0 101 ! BEYOND; says 0 99 ! BEYOND",
            "23 x ask 0 1 1; says 0 123 = 1; says 0 124 ! BEYOND; says 0 -100 ! BEYOND; says 0 -101 ! BEYOND");
        S.of("why: NONE: none",
            "member 1 1; ask 0 1 1; why 0 0 = NONE; why 5 100 = NONE; why 0 -1 = NONE; rule 'div 1' 0 9; why 4 0 = 0");
        S.of("why: of whom it is asked",
            "member 0 0; member 5 0; ask 10 1 1; rule 'div 1 if work' 0 9 = 0; why 4 1 = 0; why 4 0 = NONE",
            "why 4 100 = 0; why 4 -1 = NONE");
        S.of("why: BEYOND",
            "member 1 1; why -1 0 ! BEYOND; why 6 0 ! BEYOND; why MIN -1 ! BEYOND; why MAX 0 ! BEYOND",
            "why 0 1 ! BEYOND; why 0 -2 ! BEYOND; why 0 16 ! BEYOND; why 0 99 ! BEYOND; why 0 100 ! BEYOND",
            "why 0 MAX ! BEYOND; why 0 MIN ! BEYOND; ask 0 1 1; why 0 100 = NONE; why 0 101 ! BEYOND");
    }
}
