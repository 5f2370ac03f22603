/** Each sentence of "Terms", part 2, and of promises 9 to 17 that names a boundary. */
public final class BoundsOfLoansTest {
    private static final Sentences S = new Sentences("BoundsOfLoansTest");
    // A loan of 500 of member 0 that is LATE from week 2 on.
    private static final String LENT = "member 1 1; member 2 2; save 0 9000; ask 0 500 1; answer 0 = 0; ";

    public static void main(String[] args) {
        asks();
        backers();
        kinds();
        limits();
        interests();
        answers();
        answersOfBacked();
        orderOfAnswers();
        answered();
        dues();
        duesOfKinds();
        states();
        promise11();
        promises12To14();
        promises15To17();
        S.end();
    }

    private static void asks() {
        S.of("ASKS 0 .. 23 as they come; ask: its number, FULL",
            "member 1 1; askOf 0 0 ! BEYOND; ask 0 1 1 = 0; askOf 1 0 ! BEYOND; ask 0 2 1 = 1; 21 x ask 0 2 2",
            "ask 0 3 3 = 23; askOf 23 2 = 3; askOf 0 2 = 1; ask 0 4 4 ! FULL; askOf 24 0 ! BEYOND; count 5 = 24");
        S.of("ASKS: a SUM (1 .. 99999)",
            "member 1 1; ask 0 0 1 ! NO; ask 0 -1 1 ! NO; ask 0 100000 1 ! NO; ask 0 MIN 1 ! NO; ask 0 MAX 1 ! NO",
            "ask 0 1 1 = 0; ask 0 99999 1 = 1; askOf 0 2 = 1; askOf 1 2 = 99999");
        S.of("ASKS: for so many WEEKS (1 .. 60)",
            "member 1 1; ask 0 1 0 ! NO; ask 0 1 -1 ! NO; ask 0 1 61 ! NO; ask 0 1 MIN ! NO; ask 0 1 MAX ! NO",
            "ask 0 1 1 = 0; ask 0 1 60 = 1; askOf 0 3 = 1; askOf 1 3 = 60");
        S.of("ASKS: of a KIND (0 .. 5)",
            "member 1 1; member 2 2; ask 6 1 1 ! NO; ask 9 1 1 ! NO; ask 16 1 1 ! NO; ask 19 1 1 ! NO; ask 0 1 1 = 0",
            "ask 5 1 1 = 1; ask 15 1 1 = 2; askOf 0 1 = 0; askOf 1 1 = 5; askOf 1 0 = 0; askOf 2 1 = 5; askOf 2 0 = 1");
        S.of("ask: BEYOND: MEMBER",
            "ask 0 1 1 ! BEYOND; member 1 1; ask 10 1 1 ! BEYOND; ask -1 1 1 ! BEYOND; ask -10 1 1 ! BEYOND",
            "ask 160 1 1 ! BEYOND; ask MAX 1 1 ! BEYOND; ask MIN 1 1 ! BEYOND; ask 0 1 1 = 0");
        S.of("ask: BEYOND goes ahead of NO, both ahead of FULL",
            "member 1 1; ask 16 0 0 ! BEYOND; 24 x ask 0 1 1; ask 10 1 1 ! BEYOND; ask 10 0 1 ! BEYOND",
            "ask 6 1 1 ! NO; ask 0 0 1 ! NO; ask 0 1 61 ! NO; ask 0 1 1 ! FULL");
    }

    private static void backers() {
        S.of("BACKERS: other MEMBERS", "member 1 1; member 2 2; ask 0 1 1; back 0 0 5 ! NO; back 0 1 5 = 1");
        S.of("BACKERS, each with a PLEDGE (1 .. 99999)",
            "5 x member 1 1; ask 0 1 1; back 0 1 0 ! NO; back 0 1 -1 ! NO; back 0 1 100000 ! NO; back 0 1 MIN ! NO",
            "back 0 1 MAX ! NO; back 0 1 1 = 1; back 0 2 99999 = 2; askOf 0 4 = 100000");
        S.of("back: 4 at most; FULL",
            "7 x member 1 1; ask 0 1 1; back 0 1 5 = 1; back 0 2 5 = 2; back 0 3 5 = 3; back 0 4 5 = 4",
            "back 0 5 5 ! FULL; askOf 0 4 = 20; ask 0 1 1; back 1 5 5 = 1");
        S.of("back: each once",
            "4 x member 1 1; ask 0 1 1; ask 0 1 1; back 0 1 5 = 1; back 0 1 6 ! NO; back 0 2 5 = 2; back 0 1 5 ! NO",
            "back 0 2 5 ! NO; back 1 1 5 = 1; askOf 0 4 = 10");
        S.of("back: of an ASK that isn't ANSWERED",
            "2 x member 1 1; ask 0 1 1; ask 10 1 1; answer 0 = 5; back 0 1 5 ! NO; back 1 0 5 = 1; save 0 9",
            "answer 1 = 0; back 1 0 6 ! NO; askOf 1 4 = 5");
        S.of("back: BEYOND",
            "2 x member 1 1; back 0 1 5 ! BEYOND; ask 0 1 1; back 1 1 5 ! BEYOND; back -1 1 5 ! BEYOND",
            "back 24 1 5 ! BEYOND; back MAX 1 5 ! BEYOND; back MIN 1 5 ! BEYOND; back 0 2 5 ! BEYOND",
            "back 0 -1 5 ! BEYOND; back 0 MAX 5 ! BEYOND; back 0 MIN 5 ! BEYOND; back 0 1 5 = 1");
        S.of("back: BEYOND goes ahead of NO, both ahead of FULL",
            "7 x member 1 1; ask 0 1 1; back 0 1 5; back 0 2 5; back 0 3 5; back 0 4 5; back 0 7 5 ! BEYOND",
            "back 1 5 5 ! BEYOND; back 0 7 0 ! BEYOND; back 1 0 0 ! BEYOND; back 0 0 5 ! NO; back 0 5 0 ! NO",
            "back 0 4 5 ! NO; back 0 5 5 ! FULL; answer 0; back 0 5 5 ! NO; back 0 7 5 ! BEYOND");
    }

    private static void kinds() {
        String of = "2 x member 1 1; save 0 999; save 1 999; ask ";
        S.of("KINDS: 0 LOAN",
            of + "0 9 1; answer 0 = 0; taken 0 0 = 9; taken 0 1 ! KIND; taken 0 2 ! KIND; taken 0 3 ! KIND",
            "taken 0 4 ! KIND; taken 0 5 ! KIND");
        S.of("KINDS: 1 SMALL under LOAN",
            of + "1 9 1; answer 0 = 0; taken 0 0 = 9; taken 0 1 = 9; taken 0 2 ! KIND; taken 0 3 ! KIND",
            "taken 0 4 ! KIND; taken 0 5 ! KIND");
        S.of("KINDS: 2 SECURED under LOAN",
            of + "2 9 1; answer 0 = 0; taken 0 0 = 9; taken 0 1 ! KIND; taken 0 2 = 9; taken 0 3 ! KIND",
            "taken 0 4 ! KIND; taken 0 5 ! KIND");
        S.of("KINDS: 3 BACKED under LOAN",
            of + "3 9 1; back 0 1 9; answer 0 = 0; taken 0 0 = 9; taken 0 1 ! KIND; taken 0 2 ! KIND; taken 0 3 = 9",
            "taken 0 4 ! KIND; taken 0 5 ! KIND");
        S.of("KINDS: 4 BRIDGE under BACKED",
            of + "4 9 1; back 0 1 9; answer 0 = 0; taken 0 0 = 9; taken 0 1 ! KIND; taken 0 2 ! KIND; taken 0 3 = 9",
            "taken 0 4 = 9; taken 0 5 ! KIND");
        S.of("KINDS: 5 OLD under SECURED",
            of + "5 9 1; answer 0 = 0; taken 0 0 = 9; taken 0 1 ! KIND; taken 0 2 = 9; taken 0 3 ! KIND",
            "taken 0 4 ! KIND; taken 0 5 = 9");
    }

    private static void limits() {
        String six = "2 x member 1 1; ask 0 9 1; ask 1 9 1; ask 2 9 1; ask 3 9 1; ask 4 9 1; ask 5 9 1; ";
        S.of("LIMIT of each KIND, without a RULE",
            six + "save 0 1001; askOf 0 5 = 5000; askOf 1 5 = 1250; askOf 2 5 = 1001; askOf 3 5 = 10000",
            "askOf 4 5 = 10100; askOf 5 5 = 500");
        S.of("LIMIT: what limit SAYS of the ASK",
            six + "rule 'limit 100 * kind + sum' 0 9 = 0; askOf 0 5 = 9; askOf 1 5 = 27; askOf 3 5 = 618",
            "askOf 4 5 = 918");
        S.of("LIMIT: quotients are cut",
            six + "rule 'limit 7' 0 9; askOf 1 5 = 1; rule 'limit 8' 0 9; askOf 1 5 = 2; rule 'limit 3' 0 9",
            "askOf 1 5 = 0; rule 'limit - 3' 0 9; askOf 1 5 = 0; rule 'limit - 7' 0 9; askOf 1 5 = -1");
        S.of("LIMIT of OLD: half of SECURED's, cut",
            six + "save 1 99; save 0 3; askOf 5 5 = 1; run 1; found 0 0 -2; askOf 5 5 = 0; found 0 0 -2",
            "askOf 2 5 = -1; askOf 5 5 = 0; found 0 0 -2; askOf 2 5 = -3; askOf 5 5 = -1");
        S.of("LIMIT of SECURED: SAVED now less HELD",
            six + "save 0 100; answer 2 = 0; askOf 2 5 = 91; askOf 5 5 = 45; answer 5 = 0; askOf 2 5 = 82; pay 0 1",
            "askOf 2 5 = 83; answer 0 = 0; askOf 2 5 = 83; draw 0 3; askOf 2 5 = 80");
        S.of("LIMIT: an int, wrapping: the greatest",
            six + "rule 'limit 32767 * 65536 + 65535' 0 9; askOf 0 5 = MAX; askOf 1 5 = 536870911; askOf 3 5 = -2",
            "askOf 4 5 = 98");
        S.of("LIMIT: an int, wrapping: the least",
            six + "rule 'limit 32768 * 65536' 0 9; askOf 0 5 = MIN; askOf 1 5 = -536870912; askOf 3 5 = 0",
            "askOf 4 5 = 100");
        S.of("LIMIT: an int, wrapping: 100 more",
            six + "rule 'limit 16384 * 65536 - 1' 0 9; askOf 3 5 = 2147483646; askOf 4 5 = -2147483550",
            "rule 'limit 16384 * 65536 - 51' 0 9; askOf 4 5 = 2147483646");
        S.of("LIMIT: an int, wrapping: the ANSWER goes by it",
            six + "save 0 50; save 1 9; back 3 1 9; rule 'limit 16384 * 65536' 0 9; answer 0 = 0; answer 3 = 2");
    }

    private static void interests() {
        String six = "member 1 1; ask 0 10000 1; ask 1 10000 1; "
            + "ask 2 10000 1; ask 3 10000 1; ask 4 10000 1; ask 5 10000 1; ";
        S.of("INTEREST of each KIND, without a RULE",
            six + "askOf 0 6 = 10; askOf 1 6 = 11; askOf 2 6 = 5; askOf 3 6 = 10; askOf 4 6 = 20; askOf 5 6 = 5");
        S.of("INTEREST: a RATE of 0 .. 100, else the bound",
            six + "rule 'rate - 1' 0 9; askOf 0 6 = 0; askOf 1 6 = 1; rule 'rate 0' 0 9; askOf 0 6 = 0",
            "rule 'rate 1' 0 9; askOf 0 6 = 1; rule 'rate 99' 0 9; askOf 0 6 = 99; rule 'rate 100' 0 9",
            "askOf 0 6 = 100; rule 'rate 101' 0 9; askOf 0 6 = 100; askOf 4 6 = 200; rule 'rate 32768 * 65536' 0 9",
            "askOf 0 6 = 0; rule 'rate 32768 * 65536 - 1' 0 9; askOf 0 6 = 100");
        S.of("INTEREST: what rate SAYS of the ASK",
            six + "rule 'rate kind + sum / 1000' 0 9; askOf 0 6 = 10; askOf 3 6 = 13");
        S.of("INTEREST by 10000, cut",
            "member 1 1; ask 0 999 1; ask 0 1000 1; ask 0 333 3; ask 0 1999 1; ask 0 334 3; askOf 0 6 = 0",
            "askOf 1 6 = 1; askOf 2 6 = 0; askOf 3 6 = 1; askOf 4 6 = 1");
        S.of("INTEREST: half and twice of what LOAN's is, cut",
            "member 1 1; ask 2 3999 1; ask 5 3999 1; ask 4 3999 1; ask 1 3999 1; ask 2 1999 1; ask 4 999 1",
            "ask 1 999 1; askOf 0 6 = 1; askOf 1 6 = 1; askOf 2 6 = 6; askOf 3 6 = 4; askOf 4 6 = 0; askOf 5 6 = 0",
            "askOf 6 6 = 1");
        S.of("INTEREST: the greatest there is",
            "member 1 1; rule 'rate 100' 0 9; ask 0 99999 60; ask 4 99999 60; askOf 0 6 = 59999; askOf 1 6 = 119998");
    }

    private static void answers() {
        S.of("ANSWER 1: the MEMBER DIED",
            "2 x member 1 1; save 0 9; ask 0 1 1; ask 10 1 1; askOf 0 8 = 0; died 0 0; askOf 0 8 = 1; askOf 1 8 = 0",
            "answer 0 = 1; answer 1 = 0");
        S.of("ANSWER 1: bond SAYS 0 of the ASK",
            "member 1 1; save 0 99; ask 0 7 1; ask 0 8 1; rule 'bond sum - 7' 0 9; askOf 0 8 = 1; askOf 1 8 = 0",
            "rule 'bond 7 - sum' 0 9; askOf 0 8 = 1; askOf 1 8 = 0; rule 'bond kind' 0 9; askOf 1 8 = 1");
        S.of("ANSWER 2: SUM is above LIMIT",
            "member 1 1; save 0 9000; ask 0 5000 1; ask 0 5001 1; ask 1 1250 1; ask 1 1251 1; ask 2 9000 1",
            "ask 2 9001 1; askOf 0 8 = 0; askOf 1 8 = 2; askOf 2 8 = 0; askOf 3 8 = 2; askOf 4 8 = 0; askOf 5 8 = 2",
            "ask 5 4500 1; ask 5 4501 1; askOf 6 8 = 0; askOf 7 8 = 2");
        S.of("ANSWER 2: of BACKED and BRIDGE",
            "2 x member 1 1; save 0 90000; save 1 90000; ask 3 10000 1; ask 3 10001 1; ask 4 10100 1; ask 4 10101 1",
            "back 0 1 90000; back 1 1 90000; back 2 1 90000; back 3 1 90000; askOf 0 8 = 0; askOf 1 8 = 2",
            "askOf 2 8 = 0; askOf 3 8 = 2");
        S.of("ANSWER 3: a LOAN of the MEMBER's is LATE",
            LENT + "ask 0 1 1; ask 10 1 1; run 1; askOf 1 8 = 0; run 1; askOf 1 8 = 3; askOf 2 8 = 0; pay 0 499",
            "askOf 1 8 = 3; pay 0 1; askOf 1 8 = 0");
        S.of("ANSWER 3: a LOAN of the MEMBER's FAILED",
            LENT + "ask 0 1 1; ask 10 1 1; run 14; loanOf 0 7 = 2; look 0 6 = 0; askOf 1 8 = 3; askOf 2 8 = 0",
            "answer 1 = 3");
        S.of("ANSWER 3: any of its LOANS, the first and the last",
            "member 1 1; save 0 99; ask 0 9 1; ask 0 9 60; ask 0 9 60; ask 0 9 1; answer 0; answer 1; run 2",
            "askOf 3 8 = 3; pay 0 9; askOf 3 8 = 0; answer 3 = 0; askOf 2 8 = 0; run 1; askOf 2 8 = 0; run 1",
            "askOf 2 8 = 3; pay 2 9; askOf 2 8 = 0");
        S.of("ANSWER 5: CASH is below SUM",
            "member 1 1; save 0 100; ask 0 100 1; ask 0 99 1; ask 0 101 1; askOf 0 8 = 0; askOf 2 8 = 5; cost 1",
            "askOf 0 8 = 5; askOf 1 8 = 0; answer 1 = 0; count 3 = 0; answer 0 = 5");
    }

    private static void answersOfBacked() {
        String two = "3 x member 1 1; save 0 900; save 1 100; save 2 100; ";
        S.of("ANSWER 4: PLEDGES together are below SUM",
            two + "ask 3 100 1; ask 3 100 1; back 0 1 60; back 0 2 39; back 1 1 60; back 1 2 40; askOf 0 8 = 4",
            "askOf 1 8 = 0");
        S.of("ANSWER 4: without BACKERS", two + "ask 3 1 1; ask 4 1 1; askOf 0 8 = 4; askOf 1 8 = 4");
        S.of("ANSWER 4: a BACKER has SAVED now less than its PLEDGE",
            two + "ask 3 100 1; back 0 1 100; back 0 2 100; askOf 0 8 = 0; draw 2 1; askOf 0 8 = 4; save 2 1",
            "askOf 0 8 = 0; draw 1 1; askOf 0 8 = 4; save 1 1; askOf 0 8 = 0; answer 0 = 0");
        S.of("ANSWER 4: any BACKER, the fourth too",
            "6 x member 1 1; save 0 90; save 1 9; save 2 9; save 3 9; ask 3 9 1; back 0 1 9; back 0 2 9; back 0 3 9",
            "askOf 0 8 = 0; back 0 4 1; askOf 0 8 = 4; save 4 1; askOf 0 8 = 0");
        S.of("ANSWER 4: of BACKED ones and those under these",
            two + "ask 0 9 1; ask 1 9 1; ask 2 9 1; ask 3 9 1; ask 4 9 1; ask 5 9 1; askOf 0 8 = 0; askOf 1 8 = 0",
            "askOf 2 8 = 0; askOf 3 8 = 4; askOf 4 8 = 4; askOf 5 8 = 0; back 0 1 101; back 1 1 101; back 2 1 101",
            "back 5 1 101; askOf 0 8 = 0; askOf 1 8 = 0; askOf 2 8 = 0; askOf 5 8 = 0; back 3 1 101; back 4 1 101",
            "askOf 3 8 = 4; askOf 4 8 = 4; save 1 1; askOf 3 8 = 0; askOf 4 8 = 0");
    }

    private static void orderOfAnswers() {
        S.of("The ANSWER to an ASK is the first that is so",
            "2 x member 1 1; save 0 100; rule 'bond 0' 3 4 = 0; rule 'limit 10' 0 5 = 1; ask 0 10 1; answer 0 = 0",
            "cost 90; ask 3 21 1; run 3; askOf 1 8 = 1; run 1; askOf 1 8 = 2; run 1; askOf 1 8 = 3; pay 0 10",
            "askOf 1 8 = 4; back 1 1 21; askOf 1 8 = 4; save 1 21; askOf 1 8 = 0; cost 11; askOf 1 8 = 5; save 1 1",
            "askOf 1 8 = 0; image; died 0 5; askOf 1 8 = 1; cost 21; askOf 1 8 = 1; undo; cost 21; draw 1 1 ! MISSING",
            "askOf 1 8 = 5");
    }

    private static void answered() {
        S.of("To ANSWER tells and keeps it",
            "member 1 1; ask 0 50 1; askOf 0 7 = NONE; answer 0 = 5; save 0 90; askOf 0 7 = 5; askOf 0 8 = NONE",
            "askOf 0 9 = NONE; count 6 = 0");
        S.of("if it is 0 the ASK becomes a LOAN, its INTEREST as now, and SUM is lent",
            "member 1 1; save 0 9000; ask 0 1000 10; rule 'rate 20' 0 9; answer 0 = 0; count 3 = 8000",
            "loanOf 0 2 = 20; rule 'rate 30' 0 9; askOf 0 6 = 30; loanOf 0 2 = 20; loanOf 0 5 = 1020");
        S.of("its INTEREST as now: with CASH as it was, and without what the LOAN itself owes",
            "member 1 1; save 0 60; rule 'rate cash' 0 9; ask 0 50 60; askOf 0 6 = 18; answer 0 = 0; loanOf 0 2 = 18",
            "askOf 0 6 = 3; save 0 90; rule 'rate owed' 0 9; ask 0 50 60; askOf 1 6 = 20; answer 1 = 0",
            "loanOf 1 2 = 20; ask 0 50 60; askOf 2 6 = 30");
        S.of("LOANS as they come: not of an ASK that is refused",
            "member 1 1; ask 0 5 1; ask 0 5 1; ask 0 6 1; answer 0 = 5; save 0 90; answer 2 = 0; answer 1 = 0",
            "askOf 0 9 = NONE; askOf 2 9 = 0; askOf 1 9 = 1; loanOf 0 0 = 2; loanOf 1 0 = 1");
        S.of("An ASK is ANSWERED once",
            "member 1 1; ask 0 5 1; ask 0 6 1; answer 0 = 5; save 0 90; answer 0 ! NO; answer 1 = 0; answer 1 ! NO",
            "count 6 = 1; count 3 = 84");
        String[] all = new String[26];
        all[0] = "member 1 1; save 0 9000; loanOf 0 0 ! BEYOND";
        for (int i = 0; i < 24; i++) {
            all[i + 1] = "ask 0 " + (i + 1) + " 1; answer " + i + " = 0; askOf " + i + " 9 = " + i;
        }
        all[25] = "loanOf 23 0 = 23; loanOf 23 5 = 24; loanOf 24 0 ! BEYOND; count 6 = 24; count 7 = 24; "
            + "count 3 = 8700; pay 23 24 = 0";
        S.of("LOANS 0 .. 23", all);
    }

    private static void dues() {
        S.of("DUES in each of the WEEKS behind the one in which it was lent, as many as it is for",
            "member 1 1; save 0 9000; run 2; ask 0 12 4; answer 0 = 0; dues 0 0 = 0; dues 0 1 = 0; dues 0 2 = 0",
            "dues 0 3 = 3; dues 0 4 = 3; dues 0 5 = 3; dues 0 6 = 3; dues 0 7 = 0; dues 0 1000 = 0");
        S.of("DUES of the least time: all in one WEEK",
            "member 1 1; save 0 9000; ask 0 13 1; ask 1 13 1; ask 5 13 1; answer 0; answer 1; answer 2; dues 0 0 = 0",
            "dues 0 1 = 13; dues 0 2 = 0; dues 1 1 = 14; dues 1 2 = 0; dues 2 1 = 13; dues 2 2 = 0");
        S.of("DUES of the longest time",
            "member 1 1; save 0 9000; ask 0 4059 60; answer 0 = 0; loanOf 0 2 = 243; dues 0 1 = 71; dues 0 59 = 71",
            "dues 0 60 = 113; dues 0 61 = 0");
        S.of("DUES: by WEEKS (cut), in the last one all that is left",
            "member 1 1; save 0 9000; ask 0 5 9; ask 0 8 3; ask 0 10 4; answer 0; answer 1; answer 2; dues 0 1 = 0",
            "dues 0 8 = 0; dues 0 9 = 5; dues 1 1 = 2; dues 1 2 = 2; dues 1 3 = 4; dues 2 1 = 2; dues 2 3 = 2",
            "dues 2 4 = 4");
        S.of("DUES don't go by what is PAID",
            "member 1 1; save 0 9000; ask 0 8 3; answer 0; pay 0 7; dues 0 1 = 2; dues 0 3 = 4; pay 0 1; dues 0 1 = 2",
            "dues 0 3 = 4");
        S.of("DUES behind the last WEEK there is",
            "member 1 1; save 0 9000; 6 x run 60; run 40; ask 0 600 60; answer 0 = 0; dues 0 400 = 0; dues 0 401 = 10",
            "dues 0 459 = 10; dues 0 460 = 46; dues 0 461 = 0; dues 0 1000 = 0");
        S.of("DUE: DUES of WEEKS that are closed",
            "member 1 1; save 0 9000; run 1; ask 0 11 3; answer 0; loanOf 0 4 = 0; run 1; loanOf 0 4 = 0; run 1",
            "loanOf 0 4 = 3; run 1; loanOf 0 4 = 6; run 1; loanOf 0 4 = 11; run 1; loanOf 0 4 = 11; run 20",
            "loanOf 0 7 = 2; loanOf 0 4 = 11");
    }

    private static void duesOfKinds() {
        String one = "2 x member 1 1; save 0 9000; save 1 9000; rule 'rate 50' 0 9; ask ";
        // INTEREST of 1001 for 3 weeks: 15.
        S.of("DUES of LOAN: SUM and INTEREST by WEEKS",
            one + "0 1001 3; answer 0 = 0; loanOf 0 2 = 15; dues 0 1 = 338; dues 0 2 = 338; dues 0 3 = 340");
        S.of("DUES of SMALL as LOAN",
            one + "1 1001 3; answer 0 = 0; loanOf 0 2 = 16; dues 0 1 = 339; dues 0 2 = 339; dues 0 3 = 339");
        S.of("DUES of SECURED as LOAN",
            one + "2 1001 3; answer 0 = 0; loanOf 0 2 = 7; dues 0 1 = 336; dues 0 2 = 336; dues 0 3 = 336");
        S.of("DUES of BACKED as LOAN",
            one + "3 1001 3; back 0 1 1001; answer 0 = 0; loanOf 0 2 = 15; dues 0 1 = 338; dues 0 2 = 338",
            "dues 0 3 = 340");
        S.of("DUES of BRIDGE: nothing, in the last one all",
            one + "4 1001 3; back 0 1 1001; answer 0 = 0; loanOf 0 2 = 30; dues 0 1 = 0; dues 0 2 = 0",
            "dues 0 3 = 1031; dues 0 4 = 0");
        S.of("DUES of OLD: INTEREST by WEEKS (cut), in the last one all that is left",
            one + "5 1001 3; answer 0 = 0; loanOf 0 2 = 7; dues 0 1 = 2; dues 0 2 = 2; dues 0 3 = 1004; dues 0 4 = 0");
    }

    private static void states() {
        S.of("OWED: SUM and INTEREST less PAID",
            "member 1 1; save 0 9000; ask 0 1000 10; answer 0; loanOf 0 5 = 1010; pay 0 10 = 1000; loanOf 0 3 = 10",
            "loanOf 0 5 = 1000; run 14; loanOf 0 7 = 2; loanOf 0 5 = 1000");
        // Dues of 5 and 5.
        S.of("LATE is a LOAN that is open, of which PAID is below DUE",
            "member 1 1; save 0 90; ask 0 10 2; answer 0; run 1; look 0 6 = 0; run 1; look 0 6 = 1; pay 0 4",
            "look 0 6 = 1; pay 0 1; look 0 6 = 0; pay 0 1; look 0 6 = 0; run 1; look 0 6 = 1; pay 0 3; look 0 6 = 1",
            "pay 0 1 = 0; look 0 6 = 0; run 1; look 0 6 = 0");
        S.of("A LOAN that FAILED is not LATE", LENT + "run 13; look 0 6 = 1; run 1 = 1; look 0 6 = 0");
        S.of("A LOAN is open (0), PAID whole (1)",
            "member 1 1; save 0 90; ask 0 10 2; answer 0; loanOf 0 7 = 0; pay 0 9 = 1; loanOf 0 7 = 0; pay 0 1 = 0",
            "loanOf 0 7 = 1; count 7 = 0; count 6 = 1; run 20 = 0; loanOf 0 7 = 1");
        S.of("A LOAN is FAILED (2)",
            LENT + "run 13 = 0; loanOf 0 7 = 0; run 1 = 1; loanOf 0 7 = 2; count 7 = 0; count 6 = 1");
    }

    private static void promise11() {
        S.of("askOf: what 0 .. 9; NO: 0; BEYOND goes ahead of it",
            "member 3 4; ask 0 7 8; askOf 0 -1 ! NO; askOf 0 10 ! NO; askOf 0 MIN ! NO; askOf 0 MAX ! NO",
            "askOf 1 -1 ! BEYOND; askOf -1 10 ! BEYOND; askOf 0 0 = 0; askOf 0 9 = NONE");
        S.of("askOf: BEYOND: 0",
            "askOf 0 0 ! BEYOND; member 1 1; ask 0 7 8; askOf 1 0 ! BEYOND; askOf -1 0 ! BEYOND; askOf MAX 0 ! BEYOND",
            "askOf MIN 0 ! BEYOND; askOf 0 2 = 7");
        S.of("askOf: PLEDGES together (4)",
            "6 x member 1 1; ask 0 1 1; askOf 0 4 = 0; back 0 1 99999; back 0 2 99999; back 0 3 99999; back 0 4 99999",
            "askOf 0 4 = 399996");
        S.of("askOf: the ANSWER that was given (7; NONE), what it would be now (8; ANSWERED: NONE), its LOAN (9; NONE)",
            "member 1 1; save 0 9; ask 0 1 1; ask 0 10 1; askOf 0 7 = NONE; askOf 0 8 = 0; askOf 0 9 = NONE",
            "askOf 1 8 = 5; answer 0 = 0; answer 1 = 5; askOf 0 7 = 0; askOf 0 8 = NONE; askOf 0 9 = 0; askOf 1 7 = 5",
            "askOf 1 8 = NONE; askOf 1 9 = NONE");
    }

    private static void promises12To14() {
        S.of("answer: BEYOND",
            "answer 0 ! BEYOND; member 1 1; ask 0 1 1; answer 1 ! BEYOND; answer -1 ! BEYOND; answer MAX ! BEYOND",
            "answer MIN ! BEYOND; answer 0 = 5");
        S.of("answer: NO: it was", "member 1 1; ask 0 1 1; answer 0 = 5; answer 0 ! NO; answer 1 ! BEYOND");
        S.of("pay: a LOAN that is open (1 .. OWED): OWED then",
            LENT + "pay 0 0 ! NO; pay 0 -1 ! NO; pay 0 501 ! NO; pay 0 MIN ! NO; pay 0 MAX ! NO; pay 0 1 = 499",
            "pay 0 500 ! NO; pay 0 499 = 0; pay 0 1 ! NO; pay 0 0 ! NO");
        S.of("pay: NO: it FAILED", LENT + "run 14; pay 0 1 ! NO; pay 0 500 ! NO");
        S.of("pay: BEYOND; it goes ahead of NO",
            "member 1 1; pay 0 1 ! BEYOND; save 0 900; ask 0 500 1; pay 0 1 ! BEYOND; answer 0; pay 1 1 ! BEYOND",
            "pay -1 0 ! BEYOND; pay MAX 1 ! BEYOND; pay MIN 0 ! BEYOND; pay 0 1 = 499");
        S.of("loanOf: what 0 .. 10; NO",
            LENT + "loanOf 0 -1 ! NO; loanOf 0 11 ! NO; loanOf 0 MIN ! NO; loanOf 0 MAX ! NO; loanOf 0 0 = 0",
            "loanOf 0 10 = 0");
        S.of("loanOf: BEYOND; it goes ahead of NO",
            LENT + "loanOf 1 0 ! BEYOND; loanOf -1 0 ! BEYOND; loanOf MAX -1 ! BEYOND; loanOf MIN 11 ! BEYOND",
            "loanOf 0 1 = 0");
        // OWED is 500, of which 40 are its own, 30 and 20 pledged and there.
        S.of("loanOf: what was taken from its MEMBER (8), from its BACKERS (9), what was LOST (10)",
            "4 x member 1 1; save 3 900; save 0 940; save 1 90; save 2 20; ask 0 500 1; back 0 1 30; back 0 2 90",
            "answer 0; draw 0 900; run 13; loanOf 0 8 = 0; loanOf 0 9 = 0; loanOf 0 10 = 0; run 1; loanOf 0 8 = 40",
            "loanOf 0 9 = 50; loanOf 0 10 = 410; loanOf 0 3 = 0; count 14 = 960");
    }

    private static void promises15To17() {
        S.of("dues: a WEEK (0 .. 1000); BEYOND: 0",
            LENT + "dues 0 -1 ! BEYOND; dues 0 1001 ! BEYOND; dues 0 MIN ! BEYOND; dues 0 MAX ! BEYOND; dues 0 0 = 0",
            "dues 0 1 = 500; dues 0 1000 = 0");
        S.of("dues: BEYOND: no such LOAN", "dues 0 0 ! BEYOND; " + LENT + "; dues 1 1 ! BEYOND; dues -1 1 ! BEYOND",
            "dues MAX 1 ! BEYOND; dues MIN 1 ! BEYOND; dues 24 0 ! BEYOND");
        S.of("taken: NO: k",
            LENT + "taken 0 -1 ! NO; taken 0 6 ! NO; taken 0 MIN ! NO; taken 0 MAX ! NO; taken 0 0 = 500");
        S.of("taken: BEYOND goes ahead of NO, that ahead of KIND",
            LENT + "taken 1 0 ! BEYOND; taken -1 6 ! BEYOND; taken MAX -1 ! BEYOND; taken MIN 5 ! BEYOND",
            "taken 0 6 ! NO; taken 0 5 ! KIND");
        S.of("ALIKE: two ASKS that were ANSWERED",
            "2 x member 1 1; save 0 9; ask 0 7 1; ask 10 7 1; alike 0 1 = 0; answer 0 = 0; alike 0 1 = 0",
            "alike 1 0 = 0; answer 1 = 5; alike 0 1 = 2; alike 1 0 = 2");
        S.of("ALIKE: of like KIND, SUM and WEEKS",
            "member 1 1; ask 0 7 2; ask 0 7 2; ask 1 7 2; ask 0 8 2; ask 0 7 3; ask 0 6 2; ask 0 7 1; answer 0 = 5",
            "answer 1 = 5; answer 2 = 5; answer 3 = 5; answer 4 = 5; answer 5 = 5; answer 6 = 5; alike 0 1 = 1",
            "alike 0 2 = 0; alike 0 3 = 0; alike 0 4 = 0; alike 0 5 = 0; alike 0 6 = 0; alike 6 5 = 0");
        S.of("alike: ANSWERED unlike (2): any other ANSWER",
            "2 x member 1 1; ask 0 6000 1; ask 10 6000 1; answer 0 = 2; died 1 0; answer 1 = 1; alike 0 1 = 2",
            "alike 1 0 = 2");
        S.of("alike: NO: one and itself", "member 1 1; ask 0 7 2; alike 0 0 ! NO; answer 0; alike 0 0 ! NO");
        S.of("alike: BEYOND; it goes ahead of NO",
            "member 1 1; alike 0 0 ! BEYOND; ask 0 7 2; ask 0 7 2; alike 0 2 ! BEYOND; alike 2 0 ! BEYOND",
            "alike 2 2 ! BEYOND; alike -1 0 ! BEYOND; alike 0 -1 ! BEYOND; alike -1 -1 ! BEYOND; alike MAX 0 ! BEYOND",
            "alike 0 MIN ! BEYOND; alike 0 1 = 0");
    }
}
