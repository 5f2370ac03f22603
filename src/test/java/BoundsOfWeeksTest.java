/** Each sentence of "Terms", part 4, and of promises 23 to 27 that names a boundary. */
public final class BoundsOfWeeksTest {
    private static final Sentences S = new Sentences("BoundsOfWeeksTest");
    // A loan of 500 of member 0 that fails as week 13 closes.
    private static final String LENT = "2 x member 1 1; save 0 9000; ask 0 500 1; answer 0 = 0; ";
    // In year 0 member 1 pays an interest of 97; 3000 and 1000 are saved from week 0 on.
    private static final String EARNED = "member 5 6; member 2 2; save 0 3000; save 1 1000; rule 'rate 97' 0 9; "
        + "ask 10 1000 10; answer 0 = 0; pay 0 1097 = 0; ";
    // In year 0 member 0 pays an interest of 10, and member 1 owes a loan that it can't pay.
    private static final String LOSING = "2 x member 1 1; save 0 9000; "
        + "ask 0 1000 10; answer 0 = 0; pay 0 1010 = 0; ask 10 ";

    public static void main(String[] args) {
        late();
        fails();
        taken();
        backers();
        takenIsAnEntry();
        years();
        earned();
        surplus();
        hundredths();
        shareWeeks();
        parted();
        partedByEarned();
        opened();
        reworked();
        voided();
        whoMayBeVoided();
        dormant();
        promise23();
        promises24To26();
        S.end();
    }

    private static void late() {
        S.of("(1) if (with this WEEK's DUES) it is LATE, its LATE WEEKS are 1 more",
            "member 1 1; save 0 90; ask 0 10 2; answer 0; run 1; loanOf 0 6 = 0; run 1; loanOf 0 6 = 1; pay 0 5",
            "run 1; loanOf 0 6 = 2; pay 0 4; run 1; loanOf 0 6 = 3");
        S.of("(1) it is not LATE with all DUES PAID in this WEEK",
            "member 1 1; save 0 90; ask 0 10 2; answer 0; run 1; pay 0 5; run 1; loanOf 0 6 = 0; pay 0 4; run 1",
            "loanOf 0 6 = 1");
        S.of("(1) it is not LATE with more PAID than DUE",
            "member 1 1; save 0 90; ask 0 12 4; answer 0; run 1; pay 0 5; run 1; loanOf 0 6 = 0; look 0 6 = 0; run 1",
            "loanOf 0 6 = 1; look 0 6 = 1");
        S.of("(1) LATE WEEKS are 1 more, else 0",
            "member 1 1; save 0 90; ask 0 12 4; answer 0; run 3; loanOf 0 6 = 2; pay 0 9; run 1; loanOf 0 6 = 0",
            "run 1; loanOf 0 6 = 1; pay 0 2; run 1; loanOf 0 6 = 2");
        S.of("(1) each open LOAN: another one's LATE WEEKS stay",
            "member 1 1; save 0 90; ask 0 10 2; answer 0; run 4; loanOf 0 6 = 3; pay 0 10 = 0; loanOf 0 6 = 3; run 5",
            "loanOf 0 6 = 3");
    }

    private static void fails() {
        S.of("(1) With 13 it FAILS",
            LENT + "run 13 = 0; loanOf 0 6 = 12; loanOf 0 7 = 0; run 1 = 1; loanOf 0 6 = 13; loanOf 0 7 = 2",
            "run 20 = 0; loanOf 0 6 = 13");
        // Dues of 2 in each week: 26 by week 13.
        S.of("(1) LATE WEEKS begin again at 0",
            "member 1 1; save 0 900; ask 0 120 60; answer 0; dues 0 1 = 2; run 13 = 0; loanOf 0 6 = 12; image",
            "pay 0 25; run 1 = 1; undo; pay 0 26; run 1 = 0; loanOf 0 6 = 0; run 12 = 0; loanOf 0 6 = 12; run 1 = 1");
        S.of("(1) by numbers: the first LOAN takes first",
            "2 x member 1 1; save 0 500; save 1 900; ask 0 400 1; ask 0 300 1; answer 0; answer 1; run 14 = 2",
            "loanOf 0 8 = 400; loanOf 0 10 = 0; loanOf 1 8 = 100; loanOf 1 10 = 200; saved 0 14 14 = 0");
        S.of("(1) by numbers: not by MEMBERS, and BACKERS likewise",
            "4 x member 1 1; save 3 900; save 2 50; ask 10 40 1; ask 0 40 1; back 0 2 40; back 1 2 40; answer 1 = 0",
            "answer 0 = 0; run 14 = 2; loanOf 0 0 = 1; loanOf 0 9 = 40; loanOf 1 9 = 10; loanOf 1 10 = 30",
            "saved 2 14 14 = 0");
    }

    private static void taken() {
        String lent = "3 x member 1 1; save 1 9000; save 2 80; "
            + "ask 0 500 1; back 0 1 90; back 0 2 80; answer 0 = 0; save 0 ";
        S.of("(1) OWED is taken from what its MEMBER has SAVED: more than that",
            lent + "501; run 14 = 1; loanOf 0 8 = 500; loanOf 0 9 = 0; loanOf 0 10 = 0; saved 0 14 14 = 1",
            "saved 1 14 14 = 9000");
        S.of("(1) OWED is taken from what its MEMBER has SAVED: as much",
            lent + "500; run 14 = 1; loanOf 0 8 = 500; loanOf 0 9 = 0; loanOf 0 10 = 0; saved 0 14 14 = 0",
            "saved 1 14 14 = 9000");
        S.of("(1) then from its BACKERS: 1",
            lent + "499; run 14 = 1; loanOf 0 8 = 499; loanOf 0 9 = 1; loanOf 0 10 = 0; saved 0 14 14 = 0",
            "saved 1 14 14 = 8999; saved 2 14 14 = 80");
        S.of("(1) then from its BACKERS: all they stand for",
            lent + "330; run 14 = 1; loanOf 0 8 = 330; loanOf 0 9 = 170; loanOf 0 10 = 0; saved 1 14 14 = 8910",
            "saved 2 14 14 = 0");
        S.of("(1) what lacks then is LOST",
            lent + "329; run 14 = 1; loanOf 0 8 = 329; loanOf 0 9 = 170; loanOf 0 10 = 1; run 38; year 0 1 = 1");
        S.of("(1) OWED is taken, less PAID",
            lent + "329; pay 0 2; run 14 = 1; loanOf 0 8 = 329; loanOf 0 9 = 169; loanOf 0 10 = 0");
    }

    private static void backers() {
        String three = "4 x member 1 1; save 3 9000; ask 0 100 1; ";
        S.of("(1) BACKERS, in the order in which they were told",
            three + "save 1 500; save 2 500; back 0 2 60; back 0 1 60; answer 0 = 0; run 14; saved 2 14 14 = 440",
            "saved 1 14 14 = 460; loanOf 0 9 = 100; loanOf 0 10 = 0");
        S.of("(1) of each the least of its PLEDGE, what it has SAVED, and what is still lacking: its PLEDGE",
            three + "save 1 500; back 0 1 60; answer 0 = 0; run 14; loanOf 0 9 = 60; loanOf 0 10 = 40",
            "saved 1 14 14 = 440");
        S.of("(1) of each the least: what it has SAVED",
            three + "save 1 59; save 2 1; back 0 1 60; back 0 2 60; answer 0 = 0; run 14; loanOf 0 9 = 60",
            "loanOf 0 10 = 40; saved 1 14 14 = 0; saved 2 14 14 = 0");
        S.of("(1) of each the least: what is still lacking",
            three + "save 1 500; save 2 500; back 0 1 99; back 0 2 60; answer 0 = 0; run 14; loanOf 0 9 = 100",
            "loanOf 0 10 = 0; saved 1 14 14 = 401; saved 2 14 14 = 499");
        S.of("(1) from its BACKERS: all 4 of them",
            "6 x member 1 1; save 5 9000; save 1 10; save 2 20; save 3 30; save 4 40; ask 0 100 1; back 0 4 40",
            "back 0 3 29; back 0 2 21; back 0 1 5; answer 0 = 0; run 14 = 1; loanOf 0 9 = 94; loanOf 0 10 = 6",
            "saved 4 14 14 = 0; saved 3 14 14 = 1; saved 2 14 14 = 0; saved 1 14 14 = 5");
        S.of("(1) of what is SAVED below 0 nothing is taken",
            three + "save 0 10; save 1 10; back 0 1 50; answer 0 = 0; run 1; found 0 0 -60; found 1 0 -20; run 12",
            "count 2 = 5; run 1 = 1; loanOf 0 8 = 0; loanOf 0 9 = 0; loanOf 0 10 = 100; count 2 = 5",
            "saved 0 14 14 = -50; saved 1 14 14 = -10");
    }

    private static void takenIsAnEntry() {
        S.of("(1) (What is taken is an ENTRY below 0.)",
            LENT + "run 13; count 2 = 1; run 1; count 2 = 2; saved 0 14 14 = 8500; saved 0 13 13 = 8500",
            "saved 0 12 14 = 9000; saved 0 14 12 = 9000; count 14 = 8500; count 3 = 8500; look 0 8 = 0");
        S.of("(1) (What is taken is an ENTRY below 0): of BACKERS too",
            "3 x member 1 1; save 2 900; ask 0 90 1; back 0 2 50; answer 0 = 0; run 13; count 2 = 1; run 1 = 1",
            "count 2 = 2; saved 2 13 13 = 850; saved 2 13 14 = 850; saved 2 12 14 = 900; saved 2 14 12 = 900",
            "saved 2 14 14 = 850; look 2 8 = 0");
        S.of("(1) an ENTRY of 1",
            "2 x member 1 1; save 0 1; save 1 90; ask 0 50 1; answer 0 = 0; run 14; count 2 = 3; loanOf 0 8 = 1",
            "saved 0 14 14 = 0; loanOf 0 10 = 49");
        S.of("(1) of nothing there is no ENTRY",
            "3 x member 1 1; save 2 90; ask 0 50 1; back 0 1 5; answer 0 = 0; run 13; count 2 = 1; run 1 = 1",
            "loanOf 0 10 = 50; count 2 = 1");
        S.of("(1) of a BACKER that isn't needed there is no ENTRY",
            "3 x member 1 1; save 2 90; save 0 50; save 1 5; ask 0 50 1; back 0 1 5; answer 0 = 0; run 14 = 1",
            "count 2 = 4; loanOf 0 9 = 0");
    }

    private static void years() {
        S.of("(2) As WEEKS 51, 103, .. close a YEAR closes (YEARS 0 .. 6)",
            "year 0 0 ! BEYOND; run 51; count 10 = 0; year 0 0 ! BEYOND; run 1; count 10 = 1; year 0 0 = 0",
            "year 1 0 ! BEYOND; run 51; count 10 = 1; run 1; count 10 = 2; year 1 0 = 0; run 52; count 10 = 3; run 52",
            "count 10 = 4; run 52; count 10 = 5; run 52; count 10 = 6; run 51; count 10 = 6; run 1; count 0 = 364",
            "count 10 = 7; year 6 6 = 0; year 7 0 ! BEYOND; run 36; count 0 = 400; count 10 = 7; year 7 0 ! BEYOND");
        S.of("(2) YEARS: the last one is parted too",
            "6 x run 60; member 1 1; save 0 9000; ask 0 1000 10; answer 0; pay 0 1010; run 4; year 6 0 = 10",
            "got 6 0 0 = 4; got 6 0 1 = 4; got 6 0 2 = 36000; saved 0 364 364 = 9008; voided = 8; year 6 6 = 1");
    }

    private static void earned() {
        String lent = "run 40; 2 x member 1 1; save 0 9000; ask 0 1000 10; answer 0 = 0; ";
        S.of("(2) EARNED: PAID times INTEREST by SUM and INTEREST (cut)",
            lent + "image; pay 0 100; run 12; year 0 0 = 0; got 0 0 3 = 0; undo; pay 0 101; run 12; year 0 0 = 1",
            "got 0 0 3 = 1; undo; pay 0 1009; run 12; year 0 0 = 9; undo; pay 0 1010; run 12; year 0 0 = 10");
        S.of("(2) EARNED of each LOAN, cut",
            lent + "ask 0 1000 10; answer 1 = 0; ask 10 1000 10; answer 2 = 0; pay 0 100; pay 1 100; pay 2 202",
            "run 12; year 0 0 = 2; got 0 0 3 = 0; got 0 1 3 = 2");
        S.of("(2) less what was EARNED so of it in YEARS ahead",
            lent + "pay 0 302; run 12; year 0 0 = 2; pay 0 1; run 52; year 1 0 = 1; got 1 0 3 = 1; loanOf 0 7 = 2",
            "run 52; year 2 0 = 0");
        S.of("(2) less what was EARNED so of it in YEARS ahead: in each of them",
            lent + "pay 0 505; run 12; year 0 0 = 5; image; pay 0 303; run 52; year 1 0 = 3; undo; pay 0 505; run 52",
            "year 1 0 = 5; run 52; year 2 0 = 0");
        S.of("(2) of what was taken as it FAILED nothing is EARNED",
            "member 1 1; save 0 9000; ask 0 1000 10; answer 0; run 52; loanOf 0 8 = 1010; year 0 0 = 0; year 0 1 = 0",
            "year 0 2 = 0; count 4 = 0");
    }

    private static void surplus() {
        S.of("(2) less what was LOST in it: THE SURPLUS",
            LOSING + "4 1; answer 1 = 0; run 52; year 0 0 = 10; year 0 1 = 4; year 0 2 = 6; year 0 3 = 1",
            "year 0 4 = 2; year 0 5 = 3; got 0 0 0 = 2; got 0 0 1 = 3; count 4 = 1; count 2 = 2");
        S.of("(2) If it is above 0: 1",
            LOSING + "9 1; answer 1 = 0; run 52; year 0 2 = 1; year 0 3 = 0; year 0 4 = 0; year 0 5 = 1",
            "got 0 0 1 = 1; count 4 = 0; saved 0 52 52 = 9001; count 2 = 2");
        S.of("(2) If it is above 0: not 0",
            LOSING + "10 1; answer 1 = 0; run 52; year 0 0 = 10; year 0 1 = 10; year 0 2 = 0; year 0 3 = 0",
            "year 0 4 = 0; year 0 5 = 0; got 0 0 1 = 0; got 0 0 3 = 10; count 4 = 0; count 2 = 1; voided = 0",
            "year 0 6 = 1");
        S.of("(2) Else THE SURPLUS comes to THE RESERVE (it is less by that)",
            LOSING + "11 1; answer 1 = 0; cost 7; run 52; year 0 2 = -1; year 0 3 = 0; year 0 4 = 0; year 0 5 = 0",
            "count 4 = -8; count 2 = 1; got 0 0 0 = 0; got 0 0 1 = 0; got 0 0 5 = 0");
        S.of("(2) LOST in it: in the WEEKS of the YEAR, each once",
            "2 x member 1 1; save 0 9000; run 38; ask 10 5 1; answer 0; run 1; ask 10 6 1; answer 1 = 0; run 13 = 1",
            "year 0 1 = 5; run 1 = 1; run 51; year 1 1 = 6; run 52; year 2 1 = 0; count 4 = -11");
        S.of("(2) LOST in it: of all that FAILED in it",
            "3 x member 1 1; save 2 90; ask 0 7 1; ask 10 5 1; ask 10 4 2; answer 0; answer 1; answer 2 = 0; run 52",
            "year 0 1 = 16; count 4 = -16");
        S.of("(2) what comes to THE RESERVE comes to what it was",
            EARNED + "cost 50; run 52; year 0 3 = 19; count 4 = -31; run 52; year 1 3 = 0; count 4 = -31; cost 1",
            "count 4 = -32");
    }

    private static void hundredths() {
        int[][] reserve = {{-1, 0}, {0, 0}, {1, 0}, {2, 1}, {99, 96}, {100, 97}, {101, 97}};
        for (int[] r : reserve) {
            S.of("(2) reserve SAYS (0 .. 100, else the bound) hundredths of it (cut): " + r[0], EARNED,
                "rule 'reserve " + r[0] + "' 0 99; run 52; year 0 2 = 97; year 0 3 = " + r[1] + "; count 4 = " + r[1]);
        }
        int[][] div = {{-1, 0}, {0, 0}, {1, 0}, {2, 1}, {99, 77}, {100, 78}, {101, 78}};
        for (int[] d : div) {
            S.of("(2) div SAYS (likewise) hundredths of what is left (cut) are DIVIDEND, the rest REBATE: " + d[0],
                EARNED + "rule 'div " + d[0] + "' 0 99; run 52; year 0 3 = 19; year 0 4 = " + d[1],
                "year 0 5 = " + (78 - d[1]));
        }
        S.of("(2) reserve SAYS: far below and far above",
            EARNED + "rule 'reserve 32768 * 65536' 0 52; rule 'div 32767 * 65536' 0 52; run 52; year 0 3 = 0",
            "year 0 4 = 97; year 0 5 = 0");
        S.of("(2) reserve SAYS of none",
            EARNED + "rule 'reserve work + street + saved + owed + joined + late + kind + sum + 10' 0 99",
            "rule 'div work * 9 + 50' 0 99; run 52; year 0 3 = 9; year 0 4 = 44");
        S.of("(2) reserve SAYS as WEEK 51 is open",
            EARNED + "rule 'reserve week' 51 52; rule 'reserve 3' 52 99; rule 'div cash / 100 + week' 0 52; run 52",
            "year 0 3 = 49; year 0 4 = 43");
    }

    private static void shareWeeks() {
        S.of("(2) SHARE-WEEKS: SAVED as each of its 52 WEEKS closed: the first and the last one",
            "3 x member 1 1; save 0 3; save 1 5; run 1; draw 1 5; run 50; save 2 7; run 1; got 0 0 2 = 156",
            "got 0 1 2 = 5; got 0 2 2 = 7; draw 0 3; save 1 4; run 52; got 1 0 2 = 0; got 1 1 2 = 208",
            "got 1 2 2 = 364; got 0 0 2 = 156");
        S.of("(2) SHARE-WEEKS: as it closed, not in between",
            "2 x member 1 1; save 0 3; draw 0 3; save 1 50; draw 1 49; run 52; got 0 0 2 = 0; got 0 1 2 = 52");
        S.of("(2) SHARE-WEEKS: of what is below 0 nothing",
            "2 x member 1 1; save 0 10; save 1 90; run 1; found 0 0 -30; run 50; found 0 0 21; run 1; got 0 0 2 = 11",
            "got 0 1 2 = 4680; got 0 0 4 = 52; found 0 50 -3; got 0 0 4 = 50; found 0 0 -1; got 0 0 4 = 0",
            "found 0 51 4; got 0 0 4 = 1; got 0 0 2 = 11");
        S.of("(2) SHARE-WEEKS: behind (1)", LENT + "run 52; got 0 0 2 = 448500; got 0 0 4 = 448500");
        S.of("(2) SHARE-WEEKS: all together",
            LENT + "save 1 10; run 14; save 1 1; run 38; got 0 1 2 = 558; got 0 1 4 = 558");
    }

    private static void parted() {
        String parted = "rule 'reserve 0' 0 52; rule 'div 100' 0 52; "
            + "ask 0 1000 10; answer 0 = 0; pay 0 1010 = 0; run 52; year 0 4 = 10; ";
        S.of("(2) DIVIDEND: each times its part by all, cut; what is left one by one to the greatest rests",
            "3 x member 1 1; save 0 1000; save 1 600; save 2 800; " + parted + "got 0 0 0 = 4; got 0 1 0 = 3",
            "got 0 2 0 = 3");
        S.of("(2) DIVIDEND: of like rests the least MEMBER",
            "3 x member 1 1; save 0 1000; save 1 1000; save 2 1000; " + parted + "got 0 0 0 = 4; got 0 1 0 = 3",
            "got 0 2 0 = 3");
        S.of("(2) DIVIDEND: of like rests the least MEMBER, as often as is left",
            "4 x member 1 1; save 0 1000; save 1 1000; save 2 1000; save 3 1000; " + parted + "got 0 0 0 = 3",
            "got 0 1 0 = 3; got 0 2 0 = 2; got 0 3 0 = 2; count 2 = 8");
        S.of("(2) DIVIDEND: a greater rest goes ahead of a lesser MEMBER",
            "3 x member 1 1; save 0 700; save 1 400; save 2 900; " + parted + "got 0 0 0 = 4; got 0 1 0 = 2",
            "got 0 2 0 = 4");
        S.of("(2) DIVIDEND: each gets one of what is left at most",
            "4 x member 1 1; save 0 997; save 1 1; save 2 1; save 3 1; " + parted + "got 0 0 0 = 10; got 0 1 0 = 0",
            "got 0 2 0 = 0; got 0 3 0 = 0");
        S.of("(2) DIVIDEND: 16 MEMBERS",
            "16 x member 1 1; save 0 100; save 1 100; save 2 100; save 3 100; save 4 100; save 5 100; save 6 100",
            "save 7 100; save 8 100",
            "save 9 100; save 10 100; save 11 100; save 12 100; save 13 100; save 14 100; save 15 100; " + parted,
            "got 0 0 0 = 1; got 0 9 0 = 1; got 0 10 0 = 0; got 0 15 0 = 0; image; saved 15 52 52 = 100",
            "saved 9 52 52 = 101");
        S.of("(2) DIVIDEND: the last MEMBER alone has a part",
            "16 x member 1 1; save 15 1000; " + parted + "got 0 0 0 = 0; got 0 15 0 = 10; got 0 15 5 = 10");
        S.of("(2) DIVIDEND: the greatest rest is the last MEMBER's",
            "16 x member 1 1; save 0 940; save 15 60; " + parted + "got 0 0 0 = 9; got 0 15 0 = 1; got 0 14 0 = 0");
        S.of("(2) DIVIDEND: the greatest rest is one in between",
            "16 x member 1 1; save 0 930; save 7 60; save 12 10; " + parted,
            "got 0 0 0 = 9; got 0 7 0 = 1; got 0 12 0 = 0");
        S.of("(2) DIVIDEND: one SHARE-WEEK in all is a part",
            "member 1 1; save 0 1000; ask 0 1000 10; answer 0; pay 0 1010; draw 0 1000; run 51; save 0 1; run 1",
            "got 0 0 2 = 1; year 0 4 = 4; got 0 0 0 = 4; got 0 0 5 = 4; count 4 = 2");
        S.of("(2) DIVIDEND: without any part it comes to THE RESERVE",
            "member 1 1; save 0 1000; ask 0 1000 10; answer 0; pay 0 1010; draw 0 1000; run 52; got 0 0 2 = 0",
            "year 0 3 = 2; year 0 4 = 4; got 0 0 0 = 0; got 0 0 1 = 4; got 0 0 5 = 0; count 4 = 6; saved 0 52 52 = 4");
        S.of("(2) DIVIDEND alone comes to THE RESERVE then",
            "member 1 1; save 0 1000; ask 0 1000 10; answer 0; pay 0 1010; draw 0 1000; rule 'div 25' 0 99; cost 1",
            "run 52; year 0 3 = 2; year 0 4 = 2; year 0 5 = 6; got 0 0 0 = 0; got 0 0 1 = 6; count 4 = 3");
    }

    private static void partedByEarned() {
        String lent = "2 x member 1 1; save 0 9000; ask 0 1000 10; ask 0 1000 5; ask 10 1000 5; "
            + "answer 0; answer 1; answer 2; pay 0 1010; pay 1 1005; pay 2 1005; rule 'div 0' 0 52; ";
        S.of("(2) REBATE is parted by what each MEMBER's LOANS EARNED in the YEAR",
            lent + "rule 'reserve 0' 0 52; run 52; year 0 5 = 20; got 0 0 3 = 15; got 0 1 3 = 5; got 0 0 1 = 15",
            "got 0 1 1 = 5; got 0 1 0 = 0");
        S.of("(2) REBATE: of like rests the least MEMBER",
            lent + "rule 'reserve 50' 0 52; run 52; year 0 5 = 10; got 0 0 1 = 8; got 0 1 1 = 2; saved 1 52 52 = 2");
        S.of("(2) REBATE: by what they EARNED in this YEAR",
            "2 x member 1 1; save 0 9000; ask 0 1000 10; answer 0; pay 0 1010; run 52; got 0 0 1 = 4; ask 10 1000 10",
            "answer 1 = 0; pay 1 1010; run 52; got 1 0 1 = 0; got 1 0 3 = 0; got 1 1 1 = 4; got 1 1 3 = 10");
    }

    private static void opened() {
        S.of("(3) the next WEEK is open; what a MEMBER gets by (2) is an ENTRY for it, told in it",
            EARNED + "run 52; count 0 = 52; count 2 = 4; saved 0 51 52 = 3000; saved 0 52 51 = 3000",
            "saved 0 52 52 = 3029; saved 1 52 52 = 1049; count 3 = 4097; look 0 8 = 0");
        S.of("(3) it is one ENTRY with what is SAVED then",
            EARNED + "run 52; save 0 1 = 3030; count 2 = 4; found 0 51 1; count 2 = 5");
        S.of("(3) of nothing there is no ENTRY",
            EARNED + "member 1 1; run 52; got 0 2 0 = 0; got 0 2 1 = 0; count 2 = 4; count 14 = 4078");
        S.of("(3) it counts for SHARE-WEEKS from that WEEK on",
            EARNED + "run 60; run 44; got 1 0 2 = 157508; got 1 1 2 = 54548; got 0 0 2 = 156000");
    }

    private static void reworked() {
        S.of("REWORKED: DIVIDEND of that YEAR parted by SHARE-WEEKS as KNOWN now (by all ENTRIES, each for its WEEK)",
            EARNED + "run 52; got 0 0 5 = 29; got 0 1 5 = 10; found 1 0 2000; got 0 1 4 = 156000; got 0 0 5 = 20",
            "got 0 1 5 = 19; found 1 51 -3000; got 0 1 4 = 153000; got 0 1 5 = 19; got 0 1 0 = 10; got 0 1 2 = 52000",
            "found 0 51 5; got 0 0 4 = 156005");
        S.of("REWORKED: not by ENTRIES for WEEKS behind the YEAR",
            EARNED + "run 53; save 1 9000; found 1 52 9000; run 1; found 1 53 9000; got 0 1 4 = 52000; got 0 1 5 = 10",
            "got 0 0 5 = 29");
        S.of("REWORKED: without any part nobody would get it",
            EARNED + "run 52; got 0 0 5 = 29; found 0 0 -3000; got 0 1 5 = 39; got 0 0 5 = 0; found 1 0 -1000",
            "got 0 0 4 = 0; got 0 1 4 = 0; got 0 0 5 = 0; got 0 1 5 = 0; found 1 51 1; got 0 1 4 = 1; got 0 1 5 = 39",
            "got 0 0 5 = 0");
        S.of("REWORKED: of a MEMBER that came later",
            EARNED + "run 52; member 1 1; got 0 2 0 = 0; got 0 2 2 = 0; got 0 2 4 = 0; found 2 50 9000",
            "got 0 2 4 = 18000; got 0 2 5 = 3");
        S.of("REWORKED: of a later YEAR, by ENTRIES for WEEKS ahead of it too",
            "2 x member 1 1; save 0 3000; run 52; save 1 3000; ask 0 1000 10; answer 0; pay 0 1010; run 52",
            "got 1 0 0 = 2; got 1 1 0 = 2; got 1 1 4 = 156000; got 0 1 4 = 0; found 1 0 9000; got 1 1 4 = 624000",
            "got 0 1 4 = 468000; got 1 0 5 = 1; got 1 1 5 = 3; found 1 52 -12000; got 1 1 4 = 0; got 1 0 5 = 4",
            "got 1 1 5 = 0; found 1 103 1; got 1 1 4 = 1; got 0 1 4 = 468000");
    }

    private static void voided() {
        S.of("VOID: what each got of it is taken (an ENTRY below 0), THE RESERVE gets it",
            EARNED + "run 53; count 4 = 19; year 0 6 = 0; voided = 78; year 0 6 = 1; count 4 = 97",
            "saved 0 53 53 = 3000; saved 1 53 53 = 1000; saved 0 52 53 = 3029; saved 0 53 52 = 3029; count 2 = 6",
            "count 3 = 4097; got 0 0 0 = 29; got 0 1 1 = 39; year 0 4 = 39");
        S.of("VOID: of nothing there is no ENTRY",
            "member 1 1; save 0 5; run 53; voided = 0; count 2 = 1; year 0 6 = 1; count 4 = 0");
        S.of("voided: The last closed YEAR is VOID",
            EARNED + "run 52; run 52; voided = 0; year 0 6 = 0; year 1 6 = 1; count 4 = 19; voided ! NO");
        S.of("voided: what was taken of all 16 MEMBERS",
            "16 x member 1 1; save 0 940; save 15 60; ask 150 1000 10; answer 0 = 0; pay 0 1010; run 52",
            "got 0 0 0 = 4; got 0 15 1 = 4; saved 15 52 52 = 64; voided = 8; saved 15 52 52 = 60; saved 0 52 52 = 940",
            "count 2 = 4; count 4 = 10");
        S.of("voided: NO: it is VOID",
            EARNED + "run 52; voided = 78; voided ! NO; run 51; voided ! NO; count 0 = 103; run 1; voided = 0");
        S.of("voided: NO: none is closed",
            "voided ! NO; member 1 1; voided ! NO; run 51; voided ! NO; run 1; voided = 0");
    }

    private static void whoMayBeVoided() {
        S.of("voided: NO: a MEMBER has less SAVED now than it got: the first",
            EARNED + "run 52; draw 0 3001 = 28; voided ! NO; save 0 1 = 29; voided = 78; saved 0 52 52 = 0");
        S.of("voided: NO: a MEMBER has less SAVED now than it got: the last",
            EARNED + "run 52; draw 1 1001 = 48; voided ! NO; save 1 1 = 49; voided = 78; saved 1 52 52 = 0");
        S.of("voided: NO: less by a book that is found",
            EARNED + "run 52; found 0 0 -3001 = 28; voided ! NO; found 0 0 1 = 29; voided = 78");
        S.of("voided: NO: less than it got: also than nothing",
            EARNED + "run 52; member 1 1; found 2 0 -1 = -1; voided ! NO; save 2 1 = 0; voided = 78");
    }

    private static void dormant() {
        S.of("DORMANT: D above 0",
            "member 1 1; run 60; look 0 7 = 0; rule 'dormant 0' 0 99; look 0 7 = 0; rule 'dormant - 1' 0 99",
            "look 0 7 = 0; rule 'dormant 32768 * 65536' 0 99; look 0 7 = 0; rule 'dormant 1' 0 99; look 0 7 = 1",
            "count 13 = 1");
        S.of("DORMANT: D WEEKS or more went by since its last act",
            "member 1 1; rule 'dormant 3' 0 99; look 0 7 = 0; run 2; look 0 7 = 0; count 13 = 0; run 1; look 0 7 = 1",
            "run 1; look 0 7 = 1; count 13 = 1");
        S.of("DORMANT: 1 WEEK",
            "member 1 1; rule 'dormant 1' 0 99; look 0 7 = 0; run 1; look 0 7 = 1; save 0 5; look 0 7 = 0; run 1",
            "look 0 7 = 1");
        S.of("DORMANT: its last act (to join, to save, draw or pay)",
            "member 1 1; rule 'dormant 2' 0 99; run 1; member 1 1; run 1; look 0 7 = 1; look 1 7 = 0; run 1",
            "look 1 7 = 1; save 0 9; look 0 7 = 0; run 2; look 0 7 = 1; draw 0 1; look 0 7 = 0; ask 0 5 9",
            "answer 0 = 0; run 2; look 0 7 = 1; pay 0 1; look 0 7 = 0; look 1 7 = 1; count 13 = 1; run 2; found 0 0 1",
            "look 0 7 = 1; count 13 = 2");
        S.of("DORMANT is a MEMBER that lives",
            "2 x member 1 1; rule 'dormant 1' 0 99; run 1; count 13 = 2; died 0 0; look 0 7 = 0; look 1 7 = 1",
            "count 13 = 1");
        S.of("DORMANT, if dormant SAYS D of it",
            "member 2 1; member 3 1; member 0 1; rule 'dormant work' 0 99; run 2; look 0 7 = 1; look 1 7 = 0",
            "look 2 7 = 0; count 13 = 1; run 1; look 1 7 = 1; count 13 = 2");
    }

    private static void promise23() {
        S.of("run: n WEEKS (1 .. 60) close", "run 1 = 0; count 0 = 1; run 60 = 0; count 0 = 61");
        S.of("run: BELOW", "run -1 ! BELOW; run MIN ! BELOW; run -60 ! BELOW; count 0 = 0");
        S.of("run: NO", "run 0 ! NO; run 61 ! NO; run MAX ! NO; count 0 = 0");
        S.of("run: FULL: the open one would be above 400; BELOW and NO go ahead of it",
            "6 x run 60; run 41 ! FULL; run 39; run 2 ! FULL; run 1 = 0; run 1 ! FULL; run 60 ! FULL; run 61 ! NO",
            "run 0 ! NO; run -1 ! BELOW");
        S.of("run: how many LOANS FAILED: of all its WEEKS",
            LENT + "run 1; ask 0 7 1; answer 1 = 0; run 1; ask 10 5 1; answer 2 = 0; run 3; member 1 1; ask 20 4 1",
            "answer 3 = 0; run 13 = 3; run 1 = 1; run 9 = 0");
        S.of("run: how many LOANS FAILED: in one WEEK",
            LENT + "ask 0 7 1; ask 10 5 1; answer 1; answer 2; run 13 = 0; run 1 = 3; run 1 = 0");
    }

    private static void promises24To26() {
        S.of("cost: Costs (1 .. 99999): CASH then",
            "member 1 1; save 0 99999; save 0 99999; cost 0 ! NO; cost -1 ! NO; cost 100000 ! NO; cost MIN ! NO",
            "cost MAX ! NO; cost 99999 = 99999; cost 1 = 99998; count 4 = -100000; count 14 = 199998");
        S.of("cost: MISSING: there is less CASH; NO goes ahead of it",
            "cost 1 ! MISSING; cost 0 ! NO; cost 100000 ! NO; member 1 1; save 0 5; cost 6 ! MISSING; cost 5 = 0",
            "cost 1 ! MISSING");
        S.of("year: what 0 .. 6; NO: 0",
            "run 52; year 0 -1 ! NO; year 0 7 ! NO; year 0 MIN ! NO; year 0 MAX ! NO; year 0 0 = 0; year 0 6 = 0");
        S.of("year: BEYOND: 0; it goes ahead of NO",
            "year 0 0 ! BEYOND; run 52; year 1 0 ! BEYOND; year -1 0 ! BEYOND; year MAX -1 ! BEYOND",
            "year MIN 7 ! BEYOND; year 7 0 ! BEYOND");
        S.of("got: what 0 .. 5; NO: 0",
            "member 1 1; run 52; got 0 0 -1 ! NO; got 0 0 6 ! NO; got 0 0 MIN ! NO; got 0 0 MAX ! NO; got 0 0 0 = 0",
            "got 0 0 5 = 0");
        S.of("got: BEYOND: 0; it goes ahead of NO",
            "member 1 1; got 0 0 0 ! BEYOND; run 52; got 1 0 0 ! BEYOND; got -1 0 6 ! BEYOND; got MAX 0 0 ! BEYOND",
            "got MIN 0 0 ! BEYOND; got 0 1 0 ! BEYOND; got 0 -1 -1 ! BEYOND; got 0 MAX 0 ! BEYOND",
            "got 0 MIN 0 ! BEYOND; got 0 16 6 ! BEYOND; got 0 0 2 = 0");
    }
}
