/** Each sentence of "Terms", part 5, and of promises 28 to 38 that names a boundary. */
public final class BoundsOfRunsTest {
    private static final Sentences S = new Sentences("BoundsOfRunsTest");

    public static void main(String[] args) {
        runs();
        mayBe();
        lasts();
        lastsThroughWeeks();
        lastsWithDues();
        lastsWithNewDues();
        best();
        bestOfLike();
        promises30And31();
        fallFails();
        fallGoesOn();
        fallByNumbers();
        fallOfAll();
        duty();
        counted();
        suspects();
        books();
        promise38();
        S.end();
    }

    private static void runs() {
        S.of("RUNS 0 .. 3; each of the 8 WEEKS 0 at first",
            "runs 0 0 1 = 0; runs 0 7 2 = 0; runs 3 0 3 = 0; runs 3 7 4 = 0; runs 1 1 5 = 0; runs 2 6 6 = 0",
            "runs 0 0 0 = 1; runs 0 7 0 = 2; runs 3 0 0 = 3; runs 3 7 0 = 4; runs 1 1 0 = 5; runs 2 6 0 = 6");
        S.of("RUNS: what would be drawn (0 .. 99999 each)",
            "runs 0 0 -1 ! NO; runs 0 0 100000 ! NO; runs 0 0 MIN ! NO; runs 0 0 MAX ! NO; calm 0 = 0",
            "runs 0 0 99999 = 0; runs 0 0 0 = 99999; runs 0 0 1 = 0");
        S.of("RUNS: told or not (at first)",
            "calm 0 = 0; calm 1 = 0; calm 2 = 0; calm 3 = 0; runs 2 0 0; calm 2 = 1; calm 1 = 0; calm 3 = 0");
        S.of("runs: BEYOND: RUN: 0; it goes ahead of NO",
            "runs -1 0 0 ! BEYOND; runs 4 0 0 ! BEYOND; runs MIN 0 0 ! BEYOND; runs MAX 0 -1 ! BEYOND",
            "runs 4 8 100000 ! BEYOND");
        S.of("runs: BEYOND: w: 0; it goes ahead of NO",
            "runs 0 -1 0 ! BEYOND; runs 0 8 0 ! BEYOND; runs 0 MIN -1 ! BEYOND; runs 0 MAX 0 ! BEYOND",
            "runs 3 8 100000 ! BEYOND");
        S.of("calm: A RUN is told no longer, all its WEEKS 0: whether it was told (1, 0)",
            "runs 0 0 5; runs 0 7 6; runs 1 7 7; calm 0 = 1; calm 0 = 0; runs 0 0 0 = 0; runs 0 7 0 = 0",
            "runs 1 7 0 = 7; calm 1 = 1");
        S.of("calm: BEYOND", "calm -1 ! BEYOND; calm 4 ! BEYOND; calm MIN ! BEYOND; calm MAX ! BEYOND; calm 3 = 0");
        S.of("RUNS: the 8 WEEKS to come, not those that were",
            "runs 0 0 5; runs 0 1 6; run 1; runs 0 0 5 = 5; runs 0 1 6 = 6");
    }

    private static void mayBe() {
        S.of("A set of ASKS of which the ANSWER is 0 or 5",
            "2 x member 1 1; save 0 100; ask 0 100 1; ask 0 101 1; lay 1; judge = 1; set 0 1; judge = 0; best 3 = 1",
            "best 2 = 0");
        S.of("A set of ASKS: not one of which the ANSWER is 1",
            "2 x member 1 1; save 0 100; ask 10 1 1; lay 1; died 1 0; judge ! NO; best 1 = 0");
        S.of("A set of ASKS: not one of which the ANSWER is 2",
            "member 1 1; save 0 9000; ask 0 5001 1; lay 1; judge ! NO; best 1 = 0; ask 0 5000 1; best 3 = 2");
        S.of("A set of ASKS: not one of which the ANSWER is 3",
            "member 1 1; save 0 900; ask 0 9 1; answer 0 = 0; ask 0 8 1; lay 1; set 0 1; run 1; judge = 1; run 1",
            "judge ! NO; best 2 = 0");
        S.of("A set of ASKS: not one of which the ANSWER is 4",
            "2 x member 1 1; save 0 900; ask 3 9 1; lay 1; judge ! NO; best 1 = 0; back 0 1 9; judge ! NO; save 1 9",
            "judge = 1; best 1 = 1");
        S.of("A set of ASKS, not ANSWERED",
            "member 1 1; save 0 9; ask 0 10 1; ask 0 9 1; lay 1; answer 0 = 5; judge ! NO; set 0 1; answer 1 = 0",
            "judge ! NO; best 3 = 0");
    }

    private static void lasts() {
        String two = "2 x member 1 1; save 0 1000; ";
        S.of("LASTS, if CASH less their SUMS is not below 0",
            two + "ask 0 1000 4; ask 0 1001 4; lay 1; judge = 1; set 0 1; judge = 0; cost 1; set 0 0; judge = 0",
            "save 1 1; judge = 1");
        S.of("LASTS, if CASH less their SUMS, of all together, is not below 0",
            two + "ask 0 600 4; ask 10 300 4; ask 0 100 4; ask 0 101 4; lay 3; set 1 1; set 2 2; judge = 1; set 2 3",
            "judge = 0");
        S.of("LASTS, through each told RUN: the last one",
            two + "ask 0 400 8; lay 1; runs 3 0 600; judge = 1; runs 3 0 601; judge = 0");
        S.of("LASTS, through each told RUN: any",
            two + "ask 0 400 8; lay 1; runs 0 0 600; runs 1 0 600; runs 2 0 600; runs 3 0 600; judge = 1",
            "runs 0 0 601; judge = 0; runs 0 0 600; runs 1 0 601; judge = 0; calm 1; judge = 1; runs 2 0 601",
            "judge = 0");
        S.of("LASTS, through told RUNS alone",
            two + "ask 0 400 8; lay 1; runs 0 0 99999; judge = 0; calm 0; judge = 1; best 1 = 1");
        S.of("LASTS, without a told RUN as if nothing were drawn", two + "ask 0 1000 1; lay 1; judge = 1; best 1 = 1");
    }

    private static void lastsThroughWeeks() {
        // INTEREST of 400 for 8 weeks is 3: 50 in each, 53 in the last one, of which the RUN sees 7.
        String one = "2 x member 1 1; save 0 1000; ask 0 400 8; lay 1; ";
        S.of("LASTS: it is not below 0 at the end of the first WEEK",
            one + "runs 0 0 600; judge = 1; runs 0 0 601; judge = 0; best 1 = 0");
        S.of("LASTS: at the end of the second WEEK", one + "runs 0 1 650; judge = 1; runs 0 1 651; judge = 0");
        S.of("LASTS: at the end of the eighth WEEK", one + "runs 0 7 950; judge = 1; runs 0 7 951; judge = 0");
        S.of("LASTS: at the end of each of 8 WEEKS, not of the last one alone",
            "2 x member 1 1; save 0 1000; save 1 1; ask 0 1000 1; lay 1; runs 0 0 1; judge = 1; runs 0 0 2; judge = 0");
        S.of("LASTS: what a RUN draws in all WEEKS goes",
            one + "runs 0 0 300; runs 0 3 300; judge = 1; runs 0 6 300; judge = 1; runs 0 6 301; judge = 0",
            "runs 0 6 300; runs 0 7 50; judge = 1; runs 0 7 51; judge = 0");
        S.of("LASTS: each RUN by itself",
            one + "runs 0 0 600; runs 1 0 600; judge = 1; runs 1 1 51; judge = 0; runs 1 1 50; judge = 1");
        S.of("LASTS: the empty set",
            "lay 0; judge = 1; runs 0 0 1; judge = 0; member 1 1; save 0 1; judge = 1; runs 0 7 1; judge = 0");
    }

    private static void lastsWithDues() {
        // INTEREST of 800 for 4 weeks is 3: 200, 200, 200, 203.
        String one = "3 x member 1 1; save 0 1000; ask 10 800 4; answer 0 = 0; ask 0 200 1; lay 1; set 0 1; ";
        S.of("LASTS: DUES of that WEEK of all open LOANS come (the open WEEK is the first one)",
            one + "runs 0 0 1; judge = 0; run 1; judge = 1; runs 0 0 200; judge = 1; runs 0 0 201; judge = 0");
        S.of("LASTS: DUES of open LOANS in the next WEEK", one + "runs 0 1 400; judge = 1; runs 0 1 401; judge = 0");
        S.of("LASTS: DUES of open LOANS in the last WEEK there is",
            one + "runs 0 3 800; judge = 1; runs 0 3 801; judge = 0; runs 0 3 0; runs 0 4 1003; judge = 1",
            "runs 0 4 1004; judge = 0; runs 0 4 0; runs 0 7 1003; judge = 1; runs 0 7 1004; judge = 0");
        S.of("LASTS: DUES of open LOANS in each of 8 WEEKS: the eighth too",
            "2 x member 1 1; save 0 1000; rule 'rate 0' 0 9; ask 10 800 8; answer 0 = 0; ask 0 200 1; lay 1; set 0 1",
            "run 1; runs 0 7 1000; judge = 1; runs 0 7 1001; judge = 0; runs 0 7 0; runs 0 6 900; judge = 1",
            "runs 0 6 901; judge = 0");
        S.of("LASTS: DUES of all open LOANS",
            one + "save 0 99; ask 20 99 2; answer 2 = 0; run 1; runs 0 0 249; judge = 1; runs 0 0 250; judge = 0",
            "runs 0 0 0; runs 0 1 699; judge = 1; runs 0 1 700; judge = 0");
        S.of("LASTS: DUES, whatever is PAID ahead of them",
            one + "run 1; pay 0 100; runs 0 0 300; judge = 1; runs 0 0 301; judge = 0; pay 0 702; runs 0 0 1002",
            "judge = 1; runs 0 0 1003; judge = 0");
        S.of("LASTS: of one that is PAID whole none come",
            one + "run 1; pay 0 803; runs 0 0 803; judge = 1; runs 0 0 804; judge = 0");
        S.of("LASTS: of one that FAILED none come",
            "2 x member 1 1; save 0 1000; ask 10 800 60; answer 0 = 0; ask 0 200 1; lay 1; set 0 1; run 13",
            "runs 0 0 1; judge = 1; run 1 = 1; judge = 0; runs 0 0 0; judge = 1");
        S.of("LASTS: of what is late nothing comes",
            "2 x member 1 1; save 0 1000; ask 10 800 1; answer 0 = 0; ask 0 200 1; lay 1; set 0 1; run 2; runs 0 0 1",
            "judge = 0");
    }

    private static void lastsWithNewDues() {
        String one = "2 x member 1 1; save 0 1000; save 1 1000; ";
        S.of("LASTS: the new ones' DUES come from the next WEEK on",
            one + "ask 0 2000 1; lay 1; runs 0 0 1; judge = 0; runs 0 0 0; runs 0 1 2002; judge = 1; runs 0 1 2003",
            "judge = 0");
        S.of("LASTS: the new ones' DUES by what they would be now",
            one + "ask 0 2000 1; lay 1; rule 'rate 100' 0 1; runs 0 1 2020; judge = 1; runs 0 1 2021; judge = 0",
            "run 1; judge = 0; runs 0 1 2002; judge = 1");
        // 100 by 7 is 14, and 16 in the last one; by 8 it is 12, and 16.
        S.of("LASTS: the new ones' DUES up to the eighth WEEK",
            one + "ask 0 100 7; ask 0 100 8; lay 1; runs 0 7 2000; judge = 1; runs 0 7 2001; judge = 0; set 0 1",
            "runs 0 7 1984; judge = 1; runs 0 7 1985; judge = 0");
        S.of("LASTS: the new ones' DUES end",
            one + "ask 0 2000 2; lay 1; runs 0 2 2004; judge = 1; runs 0 3 1; judge = 0");
        S.of("LASTS: the new ones' DUES of all of the set",
            one + "ask 0 1000 1; ask 10 1000 2; lay 2; set 1 1; runs 0 1 1502; judge = 1; runs 0 1 1503; judge = 0",
            "best 3 = 1; runs 0 1 1502; best 3 = 3");
        S.of("LASTS: the new ones' DUES of the last ASK there is",
            "member 1 1; save 0 100; 23 x ask 0 1 1; ask 0 100 1; lay 1; set 0 23; runs 0 1 100; judge = 1",
            "best 8388608 = 8388608; runs 0 1 101; judge = 0; best 8388608 = 0; runs 0 1 100; set 0 22; judge = 1",
            "runs 0 1 101; judge = 0");
        S.of("LASTS: the new ones' DUES of BRIDGE",
            one + "ask 4 1000 3; back 0 1 1000; lay 1; runs 0 2 1001; judge = 0; runs 0 2 1000; judge = 1; runs 0 2 0",
            "runs 0 3 2006; judge = 1; runs 0 3 2007; judge = 0");
        S.of("LASTS: the new ones' DUES of OLD",
            one + "rule 'rate 100' 0 9; ask 5 500 3; lay 1; askOf 0 6 = 7; runs 0 2 1505; judge = 0; runs 0 2 1504",
            "judge = 1; runs 0 2 0; runs 0 3 2007; judge = 1; runs 0 3 2008; judge = 0");
    }

    private static void best() {
        S.of("BEST: the set with the most ASKS",
            "member 1 1; save 0 1000; ask 0 1000 1; ask 0 500 1; ask 0 400 1; ask 0 100 1; best 15 = 14; best 3 = 1",
            "best 7 = 6; best 5 = 1; best 9 = 1; best 8 = 8");
        S.of("BEST: of told ASKS alone",
            "member 1 1; save 0 1000; ask 0 9 1; ask 0 8 1; ask 0 7 1; best 5 = 5; best 2 = 2; best 7 = 7; best 0 = 0");
        S.of("BEST: that LASTS through RUNS too",
            "member 1 1; save 0 1000; ask 0 500 1; ask 0 400 1; runs 0 0 100; best 3 = 3; runs 0 0 101; best 3 = 1",
            "runs 0 0 501; best 3 = 2; runs 0 0 600; best 3 = 2; runs 0 0 601; best 3 = 0; runs 0 0 1001; best 3 = 0");
        S.of("BEST: an ASK that may not be in one is left out",
            "member 1 1; save 0 9000; ask 0 5001 1; ask 0 10 1; ask 3 10 1; ask 0 20 1; answer 3 = 0; best 15 = 2",
            "best 13 = 0");
    }

    private static void bestOfLike() {
        S.of("BEST: of like ones the greatest SUMS: of the least ASK",
            "member 1 1; save 0 100; ask 0 61 1; ask 0 60 1; best 3 = 1");
        S.of("BEST: of like ones the greatest SUMS: of another ASK",
            "member 1 1; save 0 100; ask 0 60 1; ask 0 61 1; best 3 = 2");
        S.of("BEST: of like ones the greatest SUMS: of two",
            "member 1 1; save 0 100; ask 0 40 1; ask 0 30 1; ask 0 60 1; ask 0 69 1; best 15 = 5; best 14 = 10",
            "best 7 = 5");
        S.of("BEST: of like ones that which has the least ASK that just one of both has",
            "member 1 1; save 0 100; ask 0 60 1; ask 0 60 1; ask 0 60 1; best 7 = 1; best 6 = 2; best 5 = 1",
            "best 4 = 4");
        S.of("BEST: of like ones the least ASK: 0 and 3 rather than 1 and 2",
            "member 1 1; save 0 100; ask 0 60 1; ask 0 50 1; ask 0 50 1; ask 0 40 1; best 15 = 9; best 14 = 6");
        S.of("BEST: of like ones the least ASK that just one has: 0 and 1 rather than 0 and 2",
            "member 1 1; save 0 100; ask 0 50 1; ask 0 40 1; ask 0 40 1; best 7 = 3");
    }

    private static void promises30And31() {
        S.of("best: more than 8: NO",
            "member 1 1; save 0 100; 24 x ask 0 1 1; best 255 = 255; best 511 ! NO; best 16711680 = 16711680",
            "best 16777215 ! NO; best 8388609 = 8388609; best 16744448 ! NO");
        S.of("best: NO: bits",
            "best 0 = 0; best 1 ! NO; member 1 1; save 0 9; ask 0 1 1; ask 0 1 1; best 3 = 3; best 4 ! NO",
            "best 5 ! NO; best -1 ! NO; best MIN ! NO; best MAX ! NO; 22 x ask 0 1 1; best 8388608 = 8388608",
            "best 16777216 ! NO");
        S.of("best: 0: none of them, also if no set LASTS",
            "member 1 1; ask 0 1 1; best 1 = 0; best 0 = 0; runs 0 0 1; best 1 = 0; best 0 = 0");
        S.of("judge: MISSING; it goes ahead of NO",
            "judge ! MISSING; lay 1; judge ! NO; tear; judge ! MISSING; lay 0; judge = 1");
        S.of("judge: NO: a number is no ASK",
            "member 1 1; save 0 9; lay 2; judge ! NO; ask 0 1 1; ask 0 1 1; set 0 1; judge = 1; set 1 2; judge ! NO",
            "set 1 -1; judge ! NO; set 1 32; judge ! NO; set 1 24; judge ! NO; set 1 MIN; judge ! NO; set 1 MAX",
            "judge ! NO; set 1 0; judge = 1");
        S.of("judge: NO: a number is there twice",
            "member 1 1; save 0 9; lay 3; ask 0 1 1; ask 0 1 1; ask 0 1 1; set 0 2; set 1 1; judge = 1; set 2 2",
            "judge ! NO; set 2 1; judge ! NO");
        S.of("judge: THE ROW of 12 numbers",
            "member 1 1; save 0 12; 24 x ask 0 1 1; lay 12; set 0 23; set 1 22; set 2 21; set 3 20; set 4 19",
            "set 5 18; set 6 17; set 7 16; set 8 15; set 9 14; set 10 13; set 11 12; judge = 1; cost 1; judge = 0",
            "set 11 13; judge ! NO");
    }

    private static void fallFails() {
        S.of("FALL, ROUND 1: it; its open LOANS FAIL as above",
            "3 x member 1 1; save 2 9000; save 0 40; save 1 500; ask 0 100 9; back 0 1 50; answer 0 = 0; fall 0 0 = 1",
            "fall 0 1 = 10; fall 0 2 = 1; pay 0 9; fall 0 1 = 1; pay 0 1; fall 0 1 = 0; save 0 1; fall 0 1 = 0");
        S.of("FALL: its open LOANS: not those of another",
            "3 x member 1 1; save 2 9000; ask 0 100 9; ask 10 70 9; answer 0; answer 1; fall 0 1 = 100; fall 1 1 = 70",
            "fall 2 1 = 0; fall 2 0 = 4; fall 2 2 = 1");
        S.of("FALL: its open LOANS: not one that is PAID or FAILED",
            "3 x member 1 1; save 2 9000; ask 0 100 9; ask 0 70 1; answer 0; answer 1; pay 0 100; fall 0 1 = 70",
            "run 14 = 1; fall 0 1 = 0; fall 0 0 = 1");
        S.of("FALL: LOANS, by numbers",
            "4 x member 1 1; save 3 9000; save 1 10; save 2 5; ask 0 10 9; ask 0 5 9; back 0 1 10; back 1 1 5",
            "back 1 2 5; answer 0 = 0; answer 1 = 0; fall 0 1 = 0; fall 0 0 = 1");
        S.of("FALL of one without LOANS",
            "16 x member 1 1; fall 0 0 = 1; fall 15 0 = 32768; fall 15 1 = 0; fall 15 2 = 1");
        S.of("FALL: All is as before then",
            "3 x member 1 1; save 2 9000; save 0 40; save 1 500; ask 0 100 9; back 0 1 50; answer 0 = 0",
            "fall 0 1 = 10; fall 0 1 = 10; saved 0 0 0 = 40; saved 1 0 0 = 500; count 2 = 3; loanOf 0 7 = 0",
            "loanOf 0 8 = 0; loanOf 0 9 = 0; loanOf 0 10 = 0; count 7 = 1; run 52; year 0 1 = 10");
        S.of("fall: what 0 .. 2; NO",
            "member 1 1; fall 0 -1 ! NO; fall 0 3 ! NO; fall 0 MIN ! NO; fall 0 MAX ! NO; fall 0 0 = 1; fall 0 2 = 1");
        S.of("fall: BEYOND; it goes ahead of NO",
            "fall 0 0 ! BEYOND; member 1 1; fall 1 0 ! BEYOND; fall -1 0 ! BEYOND; fall MAX 3 ! BEYOND",
            "fall MIN -1 ! BEYOND; fall 0 1 = 0");
    }

    private static void fallGoesOn() {
        // Member 1 stands for 100 of member 0, and has a SECURED loan of 900.
        String two = "3 x member 1 1; save 2 9000; save 1 1000; "
            + "ask 0 100 9; back 0 1 100; answer 0 = 0; ask 12 900 9; answer 1 = 0; look 1 4 = 904; ";
        S.of("FALL: each MEMBER that has less SAVED than HELD then fails in the next ROUND",
            two + "pay 1 5; look 1 4 = 899; fall 0 0 = 1; fall 0 2 = 1; draw 1 1; fall 0 0 = 1; fall 0 1 = 0",
            "draw 1 1; fall 0 0 = 3; fall 0 1 = 1; fall 0 2 = 2");
        S.of("FALL: SAVED that is as much as HELD", two + "pay 1 4; fall 0 0 = 1; fall 0 2 = 1; fall 0 1 = 0");
        S.of("FALL: SAVED that is 1 less than HELD", two + "pay 1 3; fall 0 0 = 3; fall 0 2 = 2; fall 0 1 = 1");
        S.of("FALL: of SECURED and OLD LOANS alone",
            "3 x member 1 1; save 2 9000; save 1 100; ask 0 100 9; back 0 1 100; answer 0; ask 10 50 9; answer 1",
            "fall 0 0 = 1; fall 0 1 = 0; ask 15 50 9; answer 2 = 0; fall 0 0 = 3; fall 0 1 = 100; fall 0 2 = 2");
        S.of("FALL: who didn't fail yet: two that stand for one another",
            "3 x member 1 1; save 2 9000; save 0 100; save 1 100; ask 2 100 9; back 0 1 50; ask 12 100 9; back 1 0 50",
            "answer 0 = 0; answer 1 = 0; run 1; found 0 0 -10; fall 0 0 = 3; fall 0 1 = 10; fall 0 2 = 2",
            "fall 1 0 = 3; fall 1 1 = 10; fall 1 2 = 2");
        S.of("FALL: whoever has less SAVED than HELD then, by what it may be",
            "4 x member 1 1; save 1 50; save 2 9000; save 0 100; save 3 100; ask 2 100 9; answer 0 = 0; ask 32 100 9",
            "answer 1 = 0; run 1; found 0 0 -10; fall 1 0 = 3; fall 1 2 = 2; fall 1 1 = 10; fall 3 0 = 9",
            "found 2 0 -9000 = 0; fall 1 0 = 3; found 2 0 -1; fall 1 0 = 7; fall 1 2 = 2");
    }

    private static void fallByNumbers() {
        // Member 0 takes 20 of 1 and 10 of 2; these lack 10 and 5 then. 3 has 10 for both, 4 has 5 for 2 alone.
        S.of("FALL: in the next ROUND (all these, by numbers): of MEMBERS, not of LOANS",
            "6 x member 1 1; save 5 9000; save 1 110; save 2 105; save 3 10; save 4 5; ask 22 100 1; back 0 3 5",
            "back 0 4 5; ask 12 100 1; back 1 3 10; ask 0 30 1; back 2 1 20; back 2 2 10; answer 0 = 0; answer 1 = 0",
            "answer 2 = 0; fall 0 0 = 7; fall 0 1 = 0; fall 0 2 = 2");
        // 1 lacks what 0 takes of it, 2 what 1 takes of it: these fail in ROUNDS 2 and 3.
        S.of("FALL: ROUNDS",
            "4 x member 1 1; save 3 9000; save 1 100; save 2 100; ask 0 10 1; back 0 1 10; ask 12 100 1; back 1 2 10",
            "ask 22 100 1; answer 0 = 0; answer 1 = 0; answer 2 = 0; fall 0 0 = 7; fall 0 1 = 10; fall 0 2 = 3",
            "fall 1 0 = 2; fall 2 2 = 1");
        S.of("FALL: ROUNDS: those of one fail together, and MEMBER 0 too",
            "5 x member 1 1; save 4 9000; save 0 100; save 1 100; save 2 100; ask 30 30 1; back 0 2 10; back 0 0 10",
            "back 0 1 10; ask 2 100 1; ask 12 100 1; ask 22 100 1; answer 0; answer 1; answer 2; answer 3 = 0",
            "fall 3 0 = 15; fall 3 1 = 30; fall 3 2 = 2");
    }

    private static void fallOfAll() {
        // Each stands for 1 of the one ahead of it, and has a SECURED loan of all it saved.
        StringBuilder line = new StringBuilder("ask 0 1000 10; answer 0 = 0; pay 0 1010");
        for (int m = 0; m < 16; m++) {
            line.append("; ask ").append(10 * m + 2).append(" 100 1");
            if (m < 15) {
                line.append("; back ").append(m + 1).append(' ').append(m + 1).append(" 1");
            }
            line.append("; answer ").append(m + 1).append(" = 0");
        }
        S.of("FALL: till none does: all 16",
            "16 x member 1 1; save 0 100; save 1 100; save 2 100; save 3 100; save 4 100; save 5 100; save 6 100",
            "save 7 100; save 8 100; save 9 100; save 10 100; save 11 100; save 12 100; save 13 100; save 14 100",
            "save 15 100", line.toString(),
            "fall 0 2 = 1; run 1; found 0 0 -1; fall 0 0 = 65535; fall 0 1 = 1; fall 0 2 = 16; fall 1 0 = 3",
            "fall 1 1 = 1; fall 1 2 = 2; fall 15 0 = 65535; fall 15 2 = 16");
    }

    private static void duty() {
        S.of("TILL: who was on DUTY in a WEEK (none at first); duty: who was told ahead; NONE",
            "3 x member 1 1; duty 2 = NONE; duty 0 = 2; duty 0 = 0; run 1; duty 1 = NONE; duty 2 = 1; run 60",
            "duty 0 = NONE");
        S.of("TILL: in the last WEEK",
            "2 x member 1 1; 6 x run 60; run 40; duty 0 = NONE; duty 1 = 0; duty 1 = 1; counted 1; suspects = 2");
        S.of("duty: BEYOND",
            "duty 0 ! BEYOND; member 1 1; duty 1 ! BEYOND; duty -1 ! BEYOND; duty MAX ! BEYOND; duty MIN ! BEYOND",
            "duty 0 = NONE");
        S.of("duty: 16 MEMBERS",
            "16 x member 1 1; duty 15 = NONE; duty 0 = 15; duty 15 = 0; counted 1; suspects = 32768");
    }

    private static void counted() {
        S.of("COUNTED: CASH as it was counted (0 .. 9999999)",
            "counted -1 ! NO; counted 10000000 ! NO; counted MIN ! NO; counted MAX ! NO; count 12 = 0; counted 0 = 0",
            "counted 9999999 = -9999999; member 1 1; save 0 5; counted 0 = 5; counted 4 = 1; counted 5 = 0",
            "counted 6 = -1; count 12 = 6");
        S.of("COUNTED (20 at most); FULL: 0; NO goes ahead of it",
            "19 x counted 0; count 12 = 19; counted 1 = -1; counted 0 ! FULL; counted 1 ! FULL; counted -1 ! NO",
            "counted 10000000 ! NO; count 12 = 20");
        S.of("COUNTED: the twentieth counts",
            "member 1 1; duty 0; 19 x counted 0; run 1; duty 0; counted 1 = -1; suspects = 1");
    }

    private static void suspects() {
        S.of("suspects: NONE: nothing was SHORT by something else",
            "member 1 1; duty 0; suspects = NONE; counted 0 = 0; suspects = NONE; counted 0; suspects = NONE");
        S.of("SUSPECTS of the first COUNTED that was SHORT by something else than 0, the first of all",
            "4 x member 1 1; duty 3; run 1; duty 1; run 1; duty 2; counted 1 = -1; suspects = 14; run 1; duty 0",
            "counted 1; suspects = 14; counted 2; suspects = 14");
        S.of("SUSPECTS: (from 0 on, if there is none) up to its own",
            "3 x member 1 1; duty 0; run 2; counted 1; suspects = 1; duty 1; suspects = 3; run 1; duty 2",
            "suspects = 3");
        S.of("SUSPECTS: who were on DUTY in some WEEK behind that one's",
            "4 x member 1 1; duty 0; run 1; duty 1; counted 0; run 1; duty 2; run 1; duty 3; counted 1 = -1",
            "suspects = 12; duty 0; suspects = 5");
        S.of("SUSPECTS: behind that one's WEEK: in the same one there is none",
            "2 x member 1 1; duty 0; counted 0; counted 1; suspects = 0; run 1; duty 1; counted 0; suspects = 0");
        S.of("SUSPECTS: SHORT below 0 is something else too",
            "2 x member 1 1; save 0 9; duty 0; counted 9; run 1; duty 1; counted 8 = 1; suspects = 2");
        S.of("SUSPECTS: SHORT by the same is nothing else",
            "2 x member 1 1; save 0 9; duty 0; counted 9; run 1; duty 1; counted 9; run 1; duty 0; cost 3",
            "counted 6 = 0; suspects = NONE; counted 5; suspects = 0");
        S.of("SUSPECTS: nobody was on DUTY", "member 1 1; run 3; counted 1; suspects = 0");
        S.of("SUSPECTS: the last told of a WEEK",
            "3 x member 1 1; duty 0; duty 1; counted 1; suspects = 2; duty 2; suspects = 4");
    }

    private static void books() {
        S.of("BOOKS (20 at most); book: how many BOOKS; FULL",
            "member 1 1; book 0 0 0 = 1; 18 x book 0 0 0; book 0 0 1 = 20; wrong = 524288; book 0 0 0 ! FULL",
            "count 11 = 20");
        S.of("book: so much (-9999999 .. 9999999)",
            "member 1 1; book 0 0 -10000000 ! NO; book 0 0 10000000 ! NO; book 0 0 MIN ! NO; book 0 0 MAX ! NO",
            "book 0 0 -9999999 = 1; book 0 0 9999999 = 2; wrong = 3");
        S.of("book: for a WEEK (0 .. the open one)",
            "member 1 1; book 0 1 0 ! BEYOND; book 0 -1 0 ! BEYOND; run 3; book 0 4 0 ! BEYOND; book 0 MAX 0 ! BEYOND",
            "book 0 MIN 0 ! BEYOND; book 0 3 0 = 1; book 0 0 0 = 2");
        S.of("book: BEYOND: MEMBER",
            "book 0 0 0 ! BEYOND; member 1 1; book 1 0 0 ! BEYOND; book -1 0 0 ! BEYOND; book MAX 0 0 ! BEYOND",
            "book MIN 0 0 ! BEYOND; book 0 0 0 = 1");
        S.of("book: BEYOND goes ahead of NO, that ahead of FULL",
            "member 1 1; 20 x book 0 0 0; book 1 0 0 ! BEYOND; book 0 1 0 ! BEYOND; book 1 0 10000000 ! BEYOND",
            "book 0 1 10000000 ! BEYOND; book 0 0 10000000 ! NO; book 0 0 -10000000 ! NO; book 0 0 0 ! FULL");
        S.of("WRONG, if SAVED in that WEEK as KNOWN now is another sum",
            "2 x member 1 1; save 0 100; book 0 0 100; book 0 0 99; book 0 0 101; book 1 0 0; wrong = 6; run 1",
            "save 0 5; book 0 1 105; wrong = 6; found 0 0 -1; wrong = 21; found 0 0 2; wrong = 19; found 1 0 1",
            "wrong = 27");
    }

    private static void promise38() {
        S.of("count: what 0 .. 15; NO: 0",
            "count -1 ! NO; count 16 ! NO; count MIN ! NO; count MAX ! NO; member 1 1; save 0 7; count 0 = 0",
            "count 15 = 0");
        S.of("count: LOANS (6), open ones (7)",
            "member 1 1; save 0 90; ask 0 9 1; ask 0 9 1; ask 0 8 1; answer 0; answer 1; answer 2; count 6 = 3",
            "count 7 = 3; pay 0 9; count 6 = 3; count 7 = 2; run 14; count 6 = 3; count 7 = 0");
        S.of("count: SAVED now of all (14)",
            "3 x member 1 1; save 0 90; save 2 9; count 14 = 99; run 1; found 1 0 -20; count 14 = 79; draw 2 9",
            "count 14 = 70");
        S.of("count: OWED by all open LOANS (15)",
            "2 x member 1 1; save 0 90; ask 0 9 1; ask 10 8 1; ask 0 5000 1; answer 0; answer 1; answer 2 = 5",
            "count 15 = 17; pay 1 3; count 15 = 14; run 14; count 15 = 0; loanOf 1 7 = 2");
        S.of("count: 16 MEMBERS (1), SAVED of all of them",
            "16 x member 1 1; count 1 = 16; save 15 5; save 0 7; count 14 = 12; count 13 = 0; rule 'dormant 1' 0 9",
            "run 1; count 13 = 16");
    }
}
