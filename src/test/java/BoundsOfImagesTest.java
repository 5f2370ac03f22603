/** Each sentence of "Terms", part 6, and of promises 39 to 46 that names a boundary. */
public final class BoundsOfImagesTest {
    private static final Sentences S = new Sentences("BoundsOfImagesTest");

    public static void main(String[] args) {
        image();
        keptOfMembers();
        keptOfEach();
        keptOfThree();
        nothingIsLeft();
        keptOfAsks();
        keptOfLoans();
        keptOfWeeks();
        keptOfRunsAndTills();
        notKept();
        undo();
        lay();
        set();
        row();
        copy();
        status();
        refusals();
        S.end();
    }

    private static void image() {
        S.of("image: the open WEEK", "image = 0; run 5; image = 5; 6 x run 60; run 35; image = 400; undo = 400");
        S.of("undo: All is again as it was kept: the open WEEK then",
            "run 3; image = 3; run 4; undo = 3; count 0 = 3; run 1; undo = 3; undo = 3");
        S.of("undo: MISSING", "undo ! MISSING; member 1 1; undo ! MISSING; count 1 = 1; image = 0; undo = 0; undo = 0");
        S.of("image: what is kept is the last", "run 1; image; run 1; image = 2; run 1; undo = 2; run 60; undo = 2");
        S.of("image of a new object",
            "image; member 1 1; save 0 5; ask 0 1 1; run 52; undo = 0; count 1 = 0; count 2 = 0; count 3 = 0",
            "count 5 = 0; count 10 = 0; member 2 2 = 0; look 0 0 = 2; look 0 2 = 0; saved 0 0 0 = 0");
    }

    private static void keptOfMembers() {
        S.of("All is kept: MEMBERS",
            "member 3 4; image; member 5 6; undo; count 1 = 1; look 1 0 ! BEYOND; member 7 8 = 1; look 1 0 = 7",
            "look 1 1 = 8");
        S.of("All is kept: JOINED",
            "member 1 1; run 1; image; member 1 1; run 1; undo; run 2; member 1 1 = 1; look 1 2 = 3; look 0 2 = 0");
        S.of("All is kept: who DIED",
            "2 x member 1 1; died 1 0; image; died 0 0; run 1; died 1 1; undo; look 0 3 = NONE; look 1 3 = 0",
            "save 0 5 = 5");
        S.of("All is kept: who DIED, also not in the next one's place",
            "image; member 1 1; died 0 0; undo; member 1 1 = 0; look 0 3 = NONE; save 0 5 = 5");
        S.of("All is kept: ENTRIES",
            "member 1 1; save 0 5; image; save 0 7; run 1; save 0 9; found 0 0 2; undo; count 2 = 1; saved 0 0 0 = 5",
            "save 0 1 = 6; count 2 = 1; saved 0 0 0 = 6; run 1; found 0 0 4 = 10; count 2 = 2; saved 0 0 1 = 10",
            "saved 0 1 0 = 6; save 0 3; saved 0 1 1 = 13");
        S.of("All is kept: ENTRIES of another in the same place",
            "2 x member 1 1; image; save 0 5; save 1 9; undo; save 1 7 = 7; save 0 8 = 8; saved 0 0 0 = 8",
            "saved 1 0 0 = 7; count 14 = 15");
        S.of("All is kept: CASH and THE RESERVE",
            "member 1 1; save 0 50; cost 7; image; cost 9; save 0 100; undo; count 3 = 43; count 4 = -7; cost 43 = 0");
        S.of("All is kept: the WEEK of the last act",
            "member 1 1; image; run 2; save 0 5; undo; look 0 8 = 0; run 1; save 0 5; image; run 1; draw 0 1; undo",
            "look 0 8 = 1");
    }

    private static void keptOfEach() {
        S.of("All is kept: each of several",
            "member 1 2; member 3 4; save 0 5; save 1 6; run 1; save 1 7; found 0 0 8; found 1 0 9; ask 3 5 6",
            "ask 11 7 8; back 0 1 2; back 1 0 3; ask 12 1 3; answer 2 = 0; ask 5 1 4; answer 3 = 0",
            "rule 'rate 3 if work = 1' 0 9; rule 'rate 4 + 5 if work = 3' 1 8; book 1 0 5; book 0 1 13; counted 35",
            "run 1; counted 30; run 1; duty 1; image; run 60; save 0 9; undo; look 0 0 = 1; look 1 0 = 3",
            "look 1 1 = 4; saved 0 0 0 = 5; saved 0 0 1 = 13; saved 1 0 0 = 6; saved 1 0 1 = 15; saved 1 1 1 = 22",
            "saved 1 1 0 = 6; count 2 = 5; askOf 0 1 = 3; askOf 1 1 = 1; askOf 0 0 = 0; askOf 1 0 = 1; askOf 0 2 = 5",
            "askOf 1 2 = 7; askOf 0 3 = 6; askOf 1 3 = 8; askOf 2 3 = 3; askOf 3 3 = 4; askOf 0 4 = 2; askOf 1 4 = 3",
            "says 2 0 = 3; says 2 1 = 9; says 2 -1 = 10; why 2 1 = 1; why 2 0 = 0; loanOf 0 0 = 2; loanOf 1 0 = 3",
            "loanOf 1 1 = 1; dues 0 4 = 1; dues 1 5 = 1; wrong = 1; count 12 = 2; suspects = 0; duty 0 = 1");
    }

    private static void keptOfThree() {
        S.of("All is kept: each of three",
            "member 1 2; member 3 4; member 5 6; run 1; save 0 5; save 1 6; save 2 7; rule 'rate 1' 1 9",
            "rule 'rate 2' 3 9; rule 'rate 3' 5 9; counted 18 = 0; book 1 1 6; book 2 1 7; run 1; duty 0; found 0 1 1",
            "counted 19 = 0; book 2 2 7; run 1; duty 1; counted 18 = 1; image; run 3; undo = 3; says 2 -1 = 2",
            "why 2 -1 = 1; wrong = 0; suspects = 2; run 1; says 2 -1 = 2; run 1; says 2 -1 = 3; found 1 1 1",
            "wrong = 1; found 2 2 1; wrong = 5");
    }

    private static void nothingIsLeft() {
        S.of("undo: nothing is left of LOANS that come behind the image",
            "2 x member 1 1; save 0 9000; image; ask 10 1000 10; answer 0; pay 0 505; run 1; undo; run 14 = 0; run 38",
            "year 0 0 = 0; year 0 1 = 0; count 2 = 1; count 15 = 0; look 1 5 = 0; look 1 6 = 0; undo; ask 10 5 1",
            "answer 0 = 0; run 14 = 1; count 7 = 0");
        S.of("undo: nothing is left of ENTRIES that come behind the image",
            "2 x member 1 1; save 0 5; image; run 3; save 0 9; found 0 1 7; save 1 4; undo; saved 0 0 0 = 5; died 0 0",
            "look 0 9 = 0; count 14 = 5; run 52; got 0 0 2 = 260; got 0 0 4 = 260; got 0 1 4 = 0; look 0 9 = 0",
            "saved 0 52 52 = 5");
        S.of("undo: nothing is left of ASKS, BOOKS and RULES that come behind the image",
            "member 1 1; save 0 9; image; ask 0 5 1; book 0 0 8; rule 'rate 7' 0 9; counted 8; undo; best 0 = 0",
            "best 1 ! NO; wrong = 0; why 2 -1 = NONE; suspects = NONE; lay 1; judge ! NO");
    }

    private static void keptOfAsks() {
        S.of("All is kept: ASKS",
            "member 1 1; ask 0 7 8; image; ask 0 9 9; undo; count 5 = 1; askOf 1 2 ! BEYOND; ask 1 5 6 = 1",
            "askOf 1 1 = 1; askOf 1 2 = 5; askOf 1 3 = 6; askOf 0 2 = 7");
        S.of("All is kept: BACKERS",
            "4 x member 1 1; ask 0 9 1; back 0 1 5; image; back 0 2 7; ask 0 8 1; back 1 3 9; undo; askOf 0 4 = 5",
            "back 0 2 8 = 2; askOf 0 4 = 13; ask 0 8 1 = 1; askOf 1 4 = 0; back 1 3 4 = 1; askOf 1 4 = 4");
        S.of("All is kept: ANSWERS",
            "2 x member 1 1; save 0 90; ask 0 9 1; ask 0 100 1; image; answer 0 = 0; answer 1 = 5; undo",
            "askOf 0 7 = NONE; askOf 1 7 = NONE; askOf 0 9 = NONE; askOf 0 8 = 0; count 6 = 0; count 3 = 90",
            "back 0 1 5 = 1; answer 1 = 5; answer 0 = 0; askOf 0 9 = 0");
        S.of("All is kept: ANSWERS that were given stay so",
            "member 1 1; save 0 9; ask 0 9 1; ask 0 9 1; answer 0 = 0; answer 1 = 5; image; save 0 9; undo",
            "askOf 0 7 = 0; askOf 1 7 = 5; askOf 0 9 = 0; answer 1 ! NO");
        S.of("All is kept: RULES",
            "rule 'rate 1' 0 9 = 0; image; rule 'rate 2' 0 9 = 1; undo; count 8 = 1; says 2 -1 = 1",
            "rule 'div 3 if 1' 0 9 = 1; says 4 -1 = 3; says 2 -1 = 1; why 2 -1 = 0; rule 'rate 5' 1 2 = 2",
            "says 2 -1 = 1; run 1; says 2 -1 = 5");
    }

    private static void keptOfLoans() {
        S.of("All is kept: PAID",
            "member 1 1; save 0 90; ask 0 9 3; answer 0; pay 0 2; image; pay 0 3; undo; loanOf 0 3 = 2",
            "loanOf 0 5 = 7; count 3 = 83; pay 0 7 = 0; loanOf 0 7 = 1; undo; loanOf 0 7 = 0; count 7 = 1");
        S.of("All is kept: LATE WEEKS",
            "member 1 1; save 0 90; ask 0 9 1; answer 0; run 4; image; run 5; undo; loanOf 0 6 = 3; run 9 = 0",
            "loanOf 0 6 = 12; run 1 = 1");
        S.of("All is kept: what FAILED",
            "3 x member 1 1; save 2 90; save 0 3; save 1 3; ask 0 9 1; back 0 1 2; answer 0 = 0; run 13; image",
            "run 1 = 1; undo; loanOf 0 7 = 0; loanOf 0 6 = 12; loanOf 0 8 = 0; loanOf 0 9 = 0; loanOf 0 10 = 0",
            "saved 0 13 13 = 3; saved 1 13 13 = 3; count 2 = 3; pay 0 9 = 0; run 39; year 0 1 = 0");
        S.of("All is kept: LOANS, also what comes into their places",
            "2 x member 1 1; save 0 90; image; ask 0 9 1; answer 0; run 14 = 1; undo; ask 10 80 4; answer 0",
            "loanOf 0 0 = 0; loanOf 0 1 = 0; loanOf 0 3 = 0; loanOf 0 5 = 80; loanOf 0 6 = 0; loanOf 0 7 = 0",
            "loanOf 0 8 = 0; loanOf 0 10 = 0; dues 0 1 = 20; dues 0 4 = 20; look 1 5 = 80; look 0 5 = 0");
        S.of("All is kept: BACKERS that stand for a LOAN",
            "4 x member 1 1; save 1 50; save 2 50; save 3 90; ask 0 90 1; back 0 1 20; image; back 0 2 30; back 0 3 5",
            "undo; answer 0 = 0; run 14 = 1; loanOf 0 9 = 20; loanOf 0 10 = 70; saved 2 14 14 = 50");
        S.of("All is kept: what was taken for what stood in a LOAN's place",
            "3 x member 1 1; save 1 50; save 2 90; image; ask 0 90 1; back 0 1 20; answer 0; run 14 = 1",
            "loanOf 0 9 = 20; loanOf 0 10 = 70; undo; ask 0 60 1; answer 0 = 0; loanOf 0 8 = 0; loanOf 0 9 = 0",
            "loanOf 0 10 = 0; loanOf 0 6 = 0; loanOf 0 3 = 0");
        S.of("All is kept: what was EARNED of a LOAN",
            "member 1 1; save 0 9000; ask 0 1000 10; answer 0; pay 0 1010; image; run 52; year 0 0 = 10; undo",
            "count 10 = 0; run 52; year 0 0 = 10; got 0 0 3 = 10; got 0 0 1 = 4; image; run 52; year 1 0 = 0; undo",
            "run 52; year 1 0 = 0");
        S.of("All is kept: what was EARNED of what stood in a LOAN's place",
            "member 1 1; save 0 9000; image; ask 0 1000 10; answer 0; pay 0 1010; run 52; undo; ask 0 1000 10",
            "answer 0; pay 0 505; run 52; year 0 0 = 5");
    }

    private static void keptOfWeeks() {
        S.of("All is kept: YEARS",
            "member 1 1; save 0 9000; ask 0 1000 10; answer 0; pay 0 1010; run 40; image; save 0 500; run 12",
            "year 0 4 = 4; undo; year 0 0 ! BEYOND; run 12; got 0 0 2 = 468000; year 0 0 = 10; got 0 0 0 = 4",
            "got 0 0 3 = 10; count 4 = 2; saved 0 52 52 = 9008");
        S.of("All is kept: DIVIDEND and REBATE of what stood in a YEAR's place",
            "2 x member 1 1; save 0 9000; ask 0 1000 10; answer 0; pay 0 1010; image; run 52; got 0 0 0 = 4",
            "got 0 0 1 = 4; undo; ask 10 20 1; answer 1 = 0; run 52; year 0 2 = -10; year 0 3 = 0; year 0 4 = 0",
            "got 0 0 0 = 0; got 0 0 1 = 0; got 0 0 3 = 10; count 4 = -10");
        S.of("All is kept: what was LOST in a YEAR that isn't closed",
            "2 x member 1 1; save 1 90; ask 0 9 1; answer 0; ask 0 5 1; answer 1; run 1; image; run 13 = 2; undo",
            "pay 1 5; run 51; year 0 1 = 9; undo; pay 0 9; pay 1 5; run 51; year 0 1 = 0");
        S.of("All is kept: SHARE-WEEKS of a YEAR that isn't closed",
            "member 1 1; save 0 10; run 20; image; run 20; undo; draw 0 10; run 32; got 0 0 2 = 200; undo; draw 0 9",
            "run 32; got 0 0 2 = 232");
        S.of("All is kept: whether a YEAR is VOID",
            "member 1 1; save 0 9000; ask 0 1000 10; answer 0; pay 0 1010; run 52; image; voided = 8; year 0 6 = 1",
            "undo; year 0 6 = 0; count 4 = 2; saved 0 52 52 = 9008; voided = 8; image; run 52; undo; year 0 6 = 1",
            "voided ! NO");
        S.of("All is kept: the last YEAR",
            "6 x run 60; member 1 1; save 0 9000; ask 0 1000 10; answer 0; pay 0 1010; image; run 4; voided = 8; undo",
            "year 6 0 ! BEYOND; run 4; year 6 6 = 0; year 6 0 = 10; got 6 0 3 = 10; got 6 0 2 = 36000; voided = 8",
            "undo; ask 0 1000 10; answer 1 = 0; pay 1 101; run 4; year 6 0 = 11; got 6 0 3 = 11; year 6 6 = 0");
        S.of("All is kept: the open WEEK of a YEAR",
            "run 51; image; run 1; count 10 = 1; undo; count 10 = 0; run 1; count 10 = 1; run 51; count 10 = 1");
    }

    private static void keptOfRunsAndTills() {
        S.of("All is kept: RUNS",
            "runs 0 0 5; runs 1 7 6; image; runs 0 0 8; runs 2 3 4; calm 1 = 1; undo; calm 2 = 0; runs 2 3 0 = 0",
            "runs 0 0 0 = 5; runs 1 7 0 = 6; calm 1 = 1; undo; calm 0 = 1; calm 1 = 1; calm 2 = 0; calm 3 = 0");
        S.of("All is kept: the last RUN",
            "runs 3 0 5; runs 3 7 6; image; runs 3 0 7; runs 3 7 8; undo; runs 3 0 0 = 5; runs 3 7 0 = 6; undo",
            "calm 3 = 1; undo; runs 3 7 0 = 6");
        S.of("All is kept: who was on DUTY",
            "3 x member 1 1; duty 1; image; duty 2; run 1; duty 0; undo; duty 2 = 1; undo; run 1; duty 0 = NONE",
            "counted 1; suspects = 3");
        S.of("All is kept: who was on DUTY in the last WEEK",
            "2 x member 1 1; 6 x run 60; run 40; duty 1; image; duty 0 = 1; undo; duty 0 = 1");
        S.of("All is kept: COUNTED",
            "member 1 1; duty 0; counted 0; image; counted 1; undo; suspects = NONE; count 12 = 1; run 1; counted 0",
            "counted 1; suspects = 0; 16 x counted 0; counted 0 = 0; counted 0 ! FULL; undo; count 12 = 1");
        S.of("All is kept: BOOKS",
            "member 1 1; save 0 5; book 0 0 5; image; book 0 0 6; undo; count 11 = 1; wrong = 0; book 0 0 5 = 2",
            "wrong = 0; save 0 1; wrong = 3; undo; wrong = 0");
    }

    private static void notKept() {
        S.of("All is kept but THE ROW",
            "lay 2; set 0 5; image; set 0 6; lay 3; set 2 7; undo; row 2 = 7; row 0 = 0; tear = 1; undo",
            "row 0 ! MISSING; tear = 0");
        S.of("All is kept but THE TAPE",
            "feed 5 1; image; feed 5 2 = 3; undo; count 9 = 3; wipe = 3; undo; count 9 = 0; feed 5 4 = 4");
        S.of("All is kept but status()",
            "image; member 10 0 ! NO; undo; status -7 = 1; run -1 ! BELOW; undo; status -4 = 1; status -7 = 1");
    }

    private static void undo() {
        S.of("undo: what is refused behind it is refused as it was",
            "image; member 1 1; save 0 5; ask 0 1 1; answer 0; run 1; undo; save 0 5 ! BEYOND; askOf 0 0 ! BEYOND",
            "loanOf 0 0 ! BEYOND; saved 0 0 0 ! BEYOND; best 1 ! NO; fall 0 0 ! BEYOND; duty 0 ! BEYOND",
            "dues 0 0 ! BEYOND");
        S.of("undo: places that were full have room again",
            "image; 16 x member 1 1; member 1 1 ! FULL; undo; 16 x member 1 1; member 1 1 ! FULL; undo",
            "member 1 1 = 0; image; 24 x ask 0 1 1; ask 0 1 1 ! FULL; undo; ask 0 1 1 = 0; 20 x book 0 0 0",
            "book 0 0 0 ! FULL; undo; book 0 0 0 = 1; 12 x rule 'div 1' 0 9; rule 'div 1' 0 9 ! FULL; undo",
            "rule 'div 1' 0 9 = 0");
    }

    private static void lay() {
        S.of("lay: THE ROW becomes n numbers (n 0 .. 12): n",
            "lay 0 = 0; row 0 ! BEYOND; lay 12 = 12; row 11 = 0; row 12 ! BEYOND; lay 1 = 1; row 0 = 0",
            "row 1 ! BEYOND");
        S.of("lay: all 0",
            "lay 12; set 0 5; set 11 6; lay 12; row 0 = 0; row 11 = 0; set 5 7; lay 6; row 5 = 0; lay 12; row 5 = 0",
            "row 11 = 0");
        S.of("lay: BELOW, NO",
            "lay -1 ! BELOW; lay MIN ! BELOW; lay 13 ! NO; lay MAX ! NO; tear = 0; lay 2; set 1 5; lay 13 ! NO",
            "lay -1 ! BELOW; row 1 = 5");
    }

    private static void set() {
        S.of("set: Number i of THE ROW becomes v: the one before",
            "lay 12; set 0 MIN = 0; set 0 MAX = MIN; set 0 -1 = MAX; row 0 = -1; set 11 4 = 0; row 11 = 4; row 1 = 0",
            "row 10 = 0");
        S.of("set: BEYOND: 0",
            "lay 2; set 2 1 ! BEYOND; set -1 1 ! BEYOND; set MAX 1 ! BEYOND; set MIN 1 ! BEYOND; set 1 1 = 0; lay 0",
            "set 0 1 ! BEYOND");
        S.of("set: MISSING: 0; it goes ahead of BEYOND",
            "set 0 1 ! MISSING; set -1 1 ! MISSING; set 12 1 ! MISSING; lay 1; set 0 1 = 0; tear = 1",
            "set 0 1 ! MISSING");
        S.of("tear: THE ROW is missing: 1 if it was there, else 0 (at first it is missing)",
            "tear = 0; lay 0; tear = 1; tear = 0; lay 12; tear = 1; tear = 0; row 0 ! MISSING; lay 3; row 0 = 0");
    }

    private static void row() {
        S.of("row: Number i of THE ROW; BEYOND: 0",
            "lay 2; set 1 9; row 0 = 0; row 1 = 9; row 2 ! BEYOND; row -1 ! BEYOND; row MAX ! BEYOND",
            "row MIN ! BEYOND");
        S.of("row: MISSING: 0; it goes ahead of BEYOND",
            "row 0 ! MISSING; row -1 ! MISSING; row 12 ! MISSING; lay 0; row 0 ! BEYOND; tear; row 0 ! MISSING");
    }

    private static void copy() {
        String five = "lay 5; set 0 1; set 1 2; set 2 3; set 3 4; set 4 5; ";
        S.of("copy: n numbers, from place i on, come to place j on (as they were): up",
            five + "copy 0 1 4 = 4; row 0 = 1; row 1 = 1; row 2 = 2; row 3 = 3; row 4 = 4");
        S.of("copy: n numbers, from place i on, come to place j on (as they were): down",
            five + "copy 1 0 4 = 4; row 0 = 2; row 1 = 3; row 2 = 4; row 3 = 5; row 4 = 5");
        S.of("copy: n of 0 and of all",
            five + "copy 5 5 0 = 0; copy 0 5 0 = 0; copy 0 0 0 = 0; copy 0 0 5 = 5; row 0 = 1; row 4 = 5",
            "copy 4 0 1 = 1; row 0 = 5; row 1 = 2");
        S.of("copy: COPY: i or j below 0",
            five + "copy -1 0 1 ! COPY; copy 0 -1 1 ! COPY; copy MIN 0 1 ! COPY; copy 0 MIN 1 ! COPY",
            "copy -1 0 0 ! COPY; copy 0 -1 0 ! COPY");
        S.of("copy: COPY: i + n or j + n above how many there are",
            five + "copy 1 0 5 ! COPY; copy 0 1 5 ! COPY; copy 5 0 1 ! COPY; copy 0 5 1 ! COPY; copy 6 0 0 ! COPY",
            "copy 0 6 0 ! COPY; copy 0 0 6 ! COPY");
        S.of("copy: COPY: a sum that wraps around",
            five + "copy 1 1 MAX ! COPY; copy MAX 0 1 ! COPY; copy 0 MAX 1 ! COPY; copy MAX MAX MAX ! COPY",
            "copy 5 0 2147483643 ! COPY");
        S.of("copy: BELOW: n; it goes ahead of COPY",
            five + "copy 0 0 -1 ! BELOW; copy 9 9 -1 ! BELOW; copy -1 -1 MIN ! BELOW; copy 0 0 0 = 0");
        S.of("copy: MISSING goes ahead of BELOW and COPY",
            "copy 0 0 0 ! MISSING; copy 0 0 -1 ! MISSING; copy -1 9 1 ! MISSING; lay 0; copy 0 0 0 = 0",
            "copy 0 0 1 ! COPY; copy 1 0 0 ! COPY; copy 0 0 -1 ! BELOW; tear; copy 0 0 0 ! MISSING");
    }

    private static void status() {
        S.of("status: How many calls were refused by an answer -2 .. -8",
            "status -2 = 0; undo ! MISSING; save 0 1 ! BEYOND; run -1 ! BELOW; member 10 1 ! NO; lay 0",
            "copy 1 0 0 ! COPY; member 1 1; save 0 9; ask 0 9 1; answer 0; taken 0 1 ! KIND; 20 x book 0 0 0",
            "book 0 0 0 ! FULL; status -2 = 1; status -3 = 1; status -4 = 1; status -5 = 1; status -6 = 1",
            "status -7 = 1; status -8 = 1; undo ! MISSING; undo ! MISSING; status -2 = 3; status -3 = 1");
        S.of("status: of those that tell 0 by what they tell",
            "row 0 ! MISSING; look 0 0 ! BEYOND; count 16 ! NO; set 0 0 ! MISSING; counted -1 ! NO; status -2 = 2",
            "status -3 = 1; status -7 = 2; status -8 = 0; 20 x counted 0; counted 0 ! FULL; status -8 = 1");
        S.of("status: NO: another number",
            "status -1 ! NO; status -9 ! NO; status 0 ! NO; status 2 ! NO; status 8 ! NO; status MIN ! NO",
            "status MAX ! NO; status -7 = 7; status -8 = 0");
        S.of("status: not of NONE, 0 or a FAULT",
            "member 1 1; ask 0 1 1; askOf 0 7 = NONE; why 0 0 = NONE; suspects = NONE; duty 0 = NONE; rule 0 9 = -10",
            "rule 'x' 0 9 = -10; best 0 = 0; tear = 0; wipe = 1; status -2 = 0; status -3 = 0; status -4 = 0",
            "status -5 = 0; status -6 = 0; status -7 = 0; status -8 = 0");
    }

    private static void refusals() {
        // Each of these is taken at its least edge, where it tells 0 as a refused one would.
        S.of("A call that tells 0 is not refused by it",
            "lay 1; row 0 = 0; set 0 0 = 0; counted 0 = 0; count 0 = 0; runs 0 0 0 = 0; member 1 0; look 0 1 = 0",
            "saved 0 0 0 = 0; ask 0 1 1; askOf 0 0 = 0; says 5 0 = 0; save 0 1; answer 0 = 0; dues 0 0 = 0",
            "dues 0 1000 = 0; run 52; year 0 0 = 0; got 0 0 0 = 0; died 0 0 = NONE; died 0 1 = 0; saved 0 52 52 = 0");
        S.of("A number beyond: each that is far beyond",
            "member 1 1; save 0 9; ask 0 9 1; answer 0 = 0; loanOf 2 0 ! BEYOND; pay 2 1 ! BEYOND; dues 2 0 ! BEYOND",
            "taken 2 0 ! BEYOND; askOf 2 0 ! BEYOND; answer 2 ! BEYOND; alike 0 2 ! BEYOND; alike 2 0 ! BEYOND",
            "back 2 0 1 ! BEYOND; says 0 102 ! BEYOND; why 0 102 ! BEYOND; save 2 1 ! BEYOND; draw 2 1 ! BEYOND",
            "look 2 0 ! BEYOND; died 2 0 ! BEYOND; saved 2 0 0 ! BEYOND; duty 2 ! BEYOND; fall 2 0 ! BEYOND",
            "book 2 0 0 ! BEYOND; ask 20 1 1 ! BEYOND; year 2 0 ! BEYOND; got 2 0 0 ! BEYOND; calm 5 ! BEYOND",
            "runs 5 0 0 ! BEYOND; run 1; found 2 0 1 ! BEYOND");
    }
}
