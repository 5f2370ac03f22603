/** Each sentence of "Terms", part 1, and of promises 1 to 8 that names a boundary. */
public final class BoundsOfSavingsTest {
    private static final Sentences S = new Sentences("BoundsOfSavingsTest");

    public static void main(String[] args) {
        weeksAndMembers();
        entries();
        entriesOfOthers();
        sums();
        promise1();
        promises2And3();
        promises4And5();
        promises6And7();
        promise8();
        S.end();
    }

    private static void weeksAndMembers() {
        S.of("An object is used for at most 512 calls", "member 4 1 = 0; 509 x wipe; look 0 0 = 4");
        S.of("WEEKS are numbered; the open one is 0 at first, 400 at most",
            "count 0 = 0; run 1; count 0 = 1; 6 x run 60; run 40 ! FULL; run 60 ! FULL; count 0 = 361; run 39 = 0",
            "count 0 = 400; run 1 ! FULL; count 0 = 400");
        S.of("MEMBERS 0 .. 15 as they come",
            "look 0 0 ! BEYOND; member 4 0 = 0; look 1 0 ! BEYOND; member 5 0 = 1; 13 x member 6 0",
            "look 15 0 ! BEYOND; member 7 0 = 15; look 15 0 = 7; look 0 0 = 4; look 1 0 = 5; member 8 0 ! FULL",
            "look 16 0 ! BEYOND; count 1 = 16");
        S.of("WORK (0 .. 9)",
            "member -1 0 ! NO; member 10 0 ! NO; member MIN 0 ! NO; member MAX 0 ! NO; member 0 5 = 0; member 9 5 = 1",
            "look 0 0 = 0; look 1 0 = 9");
        S.of("STREET (0 .. 9)",
            "member 0 -1 ! NO; member 0 10 ! NO; member 0 MIN ! NO; member 0 MAX ! NO; member 5 0 = 0; member 5 9 = 1",
            "look 0 1 = 0; look 1 1 = 9");
        S.of("JOINED in a WEEK (the open one)",
            "member 1 1; run 1; member 1 1; 6 x run 60; run 39; member 1 1 = 2; look 0 2 = 0; look 1 2 = 1",
            "look 2 2 = 400");
        S.of("they live, or DIED in a WEEK (told)", "member 1 1; look 0 3 = NONE; died 0 0 = NONE; look 0 3 = 0");
        S.of("DIED in the open WEEK or ahead of it",
            "member 1 1; run 4; died 0 5 ! NO; died 0 400 ! NO; died 0 MAX ! NO; look 0 3 = NONE; died 0 4 = NONE",
            "look 0 3 = 4; died 0 3 = 4; died 0 5 ! NO; look 0 3 = 3");
        S.of("DIED not ahead of JOINED",
            "run 4; member 1 1; run 4; died 0 3 ! NO; died 0 0 ! NO; died 0 -1 ! NO; died 0 MIN ! NO; look 0 3 = NONE",
            "died 0 4 = NONE; died 0 3 ! NO; look 0 3 = 4");
    }

    /** 12 members, each with an entry for each of the weeks 0 to 24, told in week 25; the last week lacks some. */
    private static String[] found(int much, int lacking, String... then) {
        String[] lines = new String[25 + then.length];
        for (int w = 0; w < 25; w++) {
            StringBuilder line = new StringBuilder(w == 0 ? "12 x member 1 1; run 25; " : "");
            for (int m = 0; m < 12 - (w == 24 ? lacking : 0); m++) {
                line.append(m > 0 ? "; " : "").append("found ").append(m).append(' ').append(w).append(' ');
                line.append(m == 1 ? 10 : much);
            }
            lines[w] = line.toString();
        }
        System.arraycopy(then, 0, lines, 25, then.length);
        return lines;
    }

    private static void entries() {
        S.of("ENTRIES (300 at most by hand)", found(10, 1,
            "count 2 = 299; save 0 7 = 257; count 2 = 300; save 1 1 ! FULL; draw 1 1 ! FULL; found 11 24 1 ! FULL",
            "save 0 1 = 258; draw 0 1 = 257; found 0 0 1 = 258; found 10 24 1 = 251; count 2 = 300; run 1",
            "save 0 1 ! FULL; draw 0 1 ! FULL; found 0 0 1 ! FULL; count 2 = 300"));
        S.of("ENTRIES: a MEMBER's, for a WEEK, so much (also below 0), told in a WEEK",
            "member 1 1; member 2 2; save 0 10; save 1 100; run 1; found 0 0 -60 = -50; saved 0 0 0 = 10",
            "saved 0 0 1 = -50; count 2 = 3; saved 1 1 1 = 100; count 14 = 50");
        S.of("what is told in a WEEK of the same MEMBER for the same WEEK is one ENTRY (their sum)",
            "member 1 1; member 2 2; save 0 5; save 0 6 = 11; draw 0 1 = 10; count 2 = 1; save 1 5; count 2 = 2",
            "run 1; save 0 5; count 2 = 3; found 0 0 1; count 2 = 4; found 0 0 2 = 18; count 2 = 4; run 1",
            "found 0 0 1; count 2 = 5; found 0 1 1; count 2 = 6; found 1 1 1; count 2 = 7; saved 0 0 1 = 13");
        S.of("one ENTRY: it stays if that is 0",
            "member 1 1; save 0 5; draw 0 5 = 0; count 2 = 1; run 1; found 0 0 7; found 0 0 -7 = 0; count 2 = 2");
        S.of("SAVED in a WEEK, as KNOWN in a WEEK: ENTRIES for WEEKS up to the first one, told up to the second",
            "member 1 1; member 2 2; save 0 1; save 1 5; run 1; save 0 10; run 1; save 0 100; found 0 1 1000",
            "found 0 0 10000; saved 0 0 0 = 1; saved 0 0 1 = 1; saved 0 0 2 = 10001; saved 0 1 0 = 1",
            "saved 0 1 1 = 11; saved 0 1 2 = 11011; saved 0 2 0 = 1; saved 0 2 1 = 11; saved 0 2 2 = 11111",
            "saved 1 2 2 = 5");
    }

    private static void entriesOfOthers() {
        // As week 38 closes loan 0 takes 250 of member 1 and 150 of its backer 2. Year 0 earned 10: 2 to the reserve,
        // 4 by share-weeks (1 to each of 0, 3, 4, 5, whose rests are the greatest), 4 to member 3, who paid it.
        S.of("ENTRIES: others always have room", found(100, 0,
            "count 2 = 300; ask 10 400 1 = 0; back 0 2 300 = 1; answer 0 = 0; ask 30 1000 10; answer 1 = 0",
            "pay 1 1010 = 0; run 13 = 0; count 2 = 300; run 1 = 1; count 2 = 302; loanOf 0 8 = 250; loanOf 0 9 = 150",
            "saved 1 38 38 = 0; run 13; count 10 = 1; count 2 = 306; saved 3 52 52 = 2505; saved 0 52 52 = 2501",
            "run 1; voided = 8; count 2 = 310; saved 3 53 53 = 2500; save 6 1 ! FULL"));
        S.of("one ENTRY: also with what is taken as a LOAN FAILS",
            "member 1 1; save 0 1000; ask 0 500 1; answer 0; run 13; save 0 9; count 2 = 2; run 1 = 1; count 2 = 2",
            "saved 0 13 13 = 509; saved 0 12 14 = 1000");
        S.of("one ENTRY: also with what a MEMBER gets, and what is taken of it again",
            "member 1 1; save 0 1000; ask 0 1000 10; answer 0; pay 0 1010; run 52; count 2 = 2; save 0 5; count 2 = 2",
            "saved 0 52 52 = 1013; voided = 8; count 2 = 2; saved 0 52 52 = 1005; draw 0 5; count 2 = 2",
            "saved 0 52 52 = 1000");
    }

    private static void sums() {
        // INTEREST of 100 for 60 weeks is 6, 7, 3, 6, 12, 3.
        S.of("HELD: what it OWES by its SECURED LOANS and those under these, together",
            "member 1 1; member 2 2; save 0 9000; save 1 9000; ask 0 100 60; ask 1 100 60; ask 2 100 60; ask 3 100 60",
            "ask 4 100 60; ask 5 100 60; ask 12 70 1; back 3 1 100; back 4 1 100; answer 0 = 0; answer 1 = 0",
            "look 0 4 = 0; answer 3 = 0; answer 4 = 0; look 0 4 = 0; answer 2 = 0; look 0 4 = 103; answer 5 = 0",
            "look 0 4 = 206; look 1 4 = 0; answer 6 = 0; look 1 4 = 70; look 0 4 = 206; pay 4 3 = 100; look 0 4 = 203",
            "pay 4 100 = 0; look 0 4 = 103; run 60; look 0 4 = 103; run 13; loanOf 5 7 = 2; look 0 4 = 0");
        S.of("CASH (0 at first): what is saved, paid and found comes, what is drawn, lent and paid for COSTS goes",
            "count 3 = 0; member 1 1; save 0 50; count 3 = 50; draw 0 20; count 3 = 30; cost 5 = 25; count 3 = 25",
            "ask 0 20 1; answer 0 = 0; count 3 = 5; pay 0 8 = 12; count 3 = 13; run 1; found 0 0 4 = 34; count 3 = 17",
            "found 0 0 -2 = 32; count 3 = 15");
        S.of("CASH is never below 0",
            "member 1 1; member 2 2; save 0 50; run 1; cost 51 ! MISSING; cost 40 = 10; draw 0 11 ! MISSING",
            "found 0 0 -11 ! MISSING; ask 10 11 1; answer 0 = 5; count 3 = 10; image; cost 10 = 0; count 3 = 0; undo",
            "draw 0 10 = 40; count 3 = 0; undo; found 0 0 -10 = 40; count 3 = 0; undo; ask 10 10 1; answer 1 = 0",
            "count 3 = 0; cost 1 ! MISSING; draw 0 1 ! MISSING; found 0 0 -1 ! MISSING; ask 10 1 1; answer 2 = 5");
        S.of("THE RESERVE (0 at first; it may be below 0)",
            "count 4 = 0; member 1 1; save 0 9; count 4 = 0; cost 1; count 4 = -1; cost 8 = 0; count 4 = -9");
    }

    private static void promise1() {
        S.of("A new object: WEEK 0; nobody, nothing; THE TAPE is empty",
            "count 0 = 0; count 1 = 0; count 2 = 0; count 3 = 0; count 4 = 0; count 5 = 0; count 6 = 0; count 7 = 0",
            "count 8 = 0; count 9 = 0; count 10 = 0; count 11 = 0; count 12 = 0; count 13 = 0; count 14 = 0",
            "count 15 = 0; wipe = 0; wrong = 0; suspects = NONE; best 0 = 0; calm 0 = 0; calm 3 = 0; undo ! MISSING",
            "voided ! NO; look 0 0 ! BEYOND; askOf 0 0 ! BEYOND; loanOf 0 0 ! BEYOND; year 0 0 ! BEYOND",
            "got 0 0 0 ! BEYOND");
        S.of("A new object: THE ROW is missing",
            "row 0 ! MISSING; set 0 0 ! MISSING; copy 0 0 0 ! MISSING; judge ! MISSING; tear = 0");
        S.of("A new object: no call was refused",
            "status -2 = 0; status -3 = 0; status -4 = 0; status -5 = 0; status -6 = 0; status -7 = 0; status -8 = 0");
    }

    private static void promises2And3() {
        S.of("member: NO goes ahead of FULL", "16 x member 9 9; member 10 9 ! NO; member 9 -1 ! NO; member 9 9 ! FULL");
        S.of("died: the WEEK told ahead (NONE: it lived)",
            "member 1 1; member 2 2; run 2; died 1 2 = NONE; died 1 0 = 2; died 1 1 = 0; died 1 1 = 1",
            "died 0 0 = NONE; status -7 = 0; status -3 = 0");
        S.of("died: BEYOND: 0",
            "died 0 0 ! BEYOND; member 1 1; died 1 0 ! BEYOND; died -1 0 ! BEYOND; died 16 0 ! BEYOND",
            "died MIN 0 ! BEYOND; died MAX 0 ! BEYOND; died 0 0 = NONE");
        S.of("died: NO: 0; BEYOND goes ahead of it",
            "member 1 1; died 0 1 ! NO; died 0 -1 ! NO; died 0 1000 ! NO; died 1 1 ! BEYOND; died -1 -1 ! BEYOND");
    }

    private static void promises4And5() {
        S.of("save: in the open WEEK (1 .. 99999): SAVED now",
            "member 1 1; save 0 0 ! NO; save 0 -1 ! NO; save 0 100000 ! NO; save 0 MIN ! NO; save 0 MAX ! NO",
            "save 0 1 = 1; save 0 99999 = 100000; count 3 = 100000; run 1; save 0 1 = 100001; saved 0 0 1 = 100000");
        S.of("save: BEYOND; it goes ahead of NO and FULL", found(10, 0,
            "save 12 1 ! BEYOND; save -1 1 ! BEYOND; save MAX 0 ! BEYOND; save MIN 0 ! BEYOND; save 11 1 ! FULL"));
        S.of("save: NO: it DIED", "member 1 1; member 2 2; run 2; died 0 0; save 0 1 ! NO; save 1 1 = 1");
        S.of("save: FULL: there are 300 ENTRIES or more, and none is the same; NO goes ahead of it", found(10, 1,
            "save 3 1 = 251; save 4 1 ! FULL; save 4 0 ! NO; save 4 100000 ! NO; died 5 25; save 5 1 ! NO",
            "save 3 1 = 252"));
        // Two more come as a loan fails.
        S.of("save: FULL: 300 ENTRIES or more", found(100, 0,
            "ask 10 400 1; back 0 2 300; answer 0; run 14 = 1; count 2 = 302; save 1 1 ! FULL; draw 0 1 ! FULL",
            "found 1 38 1 ! FULL; found 1 37 1 ! FULL; count 2 = 302"));
        S.of("draw: in the open WEEK (1 .. 99999): SAVED now",
            "member 1 1; save 0 99999; save 0 99999 = 199998; draw 0 0 ! NO; draw 0 -1 ! NO; draw 0 100000 ! NO",
            "draw 0 MIN ! NO; draw 0 MAX ! NO; draw 0 99999 = 99999; draw 0 1 = 99998; count 3 = 99998");
        S.of("draw: NO: more than SAVED less HELD",
            "member 1 1; member 2 2; save 0 100; save 1 100; draw 0 101 ! NO; ask 2 40 1; answer 0 = 0",
            "draw 0 61 ! NO; draw 0 60 = 40; draw 0 1 ! NO; pay 0 1; draw 0 2 ! NO; draw 0 1 = 39");
        S.of("draw: MISSING: more than CASH",
            "member 1 1; save 0 100; cost 90; draw 0 11 ! MISSING; draw 0 10 = 90; draw 0 1 ! MISSING");
        S.of("draw: BEYOND goes ahead of NO, MISSING and FULL",
            "draw 0 1 ! BEYOND; member 1 1; draw 1 1 ! BEYOND; draw -1 0 ! BEYOND; draw MAX 1 ! BEYOND",
            "draw MIN 1 ! BEYOND");
        S.of("draw: FULL; NO and MISSING go ahead of it, BEYOND of all", found(10, 0,
            "draw 0 1 ! FULL; draw 0 250 ! FULL; draw 0 251 ! NO; draw 0 0 ! NO; draw 12 1 ! BEYOND; cost 2999 = 1",
            "draw 0 2 ! MISSING; draw 0 251 ! NO; draw 0 1 ! FULL"));
        S.of("draw: the dead may draw", "member 1 1; save 0 9; died 0 0; draw 0 9 = 0");
    }

    private static void promises6And7() {
        S.of("found: for a WEEK ahead of the open one",
            "member 1 1; found 0 0 1 ! BEYOND; run 3; found 0 3 1 ! BEYOND; found 0 400 1 ! BEYOND",
            "found 0 -1 1 ! BEYOND; found 0 MAX 1 ! BEYOND; found 0 MIN 1 ! BEYOND; found 0 2 1 = 1; found 0 0 1 = 2",
            "saved 0 1 3 = 1; saved 0 2 3 = 2");
        S.of("found: told now", "member 1 1; run 3; found 0 0 5 = 5; saved 0 3 2 = 0; saved 0 0 3 = 5");
        S.of("found: n -99999 .. 99999, not 0",
            "member 1 1; save 0 99999; run 1; found 0 0 0 ! NO; found 0 0 100000 ! NO; found 0 0 -100000 ! NO",
            "found 0 0 MAX ! NO; found 0 0 MIN ! NO; found 0 0 99999 = 199998; found 0 0 -99999 = 99999",
            "found 0 0 1 = 100000; found 0 0 -1 = 99999; count 3 = 99999");
        S.of("found: MISSING: CASH would be below 0",
            "member 1 1; save 0 100; run 1; cost 90; found 0 0 -11 ! MISSING; found 0 0 -10 = 90",
            "found 0 0 -1 ! MISSING; found 0 0 1 = 91");
        S.of("found: BEYOND goes ahead of NO, that ahead of MISSING, that ahead of FULL", found(10, 0,
            "found 12 0 1 ! BEYOND; found -1 0 0 ! BEYOND; found 0 25 0 ! BEYOND; found 0 -1 100000 ! BEYOND",
            "cost 3000 = 0; run 1; found 0 0 -100000 ! NO; found 0 0 0 ! NO; found 0 0 -1 ! MISSING",
            "found 0 0 1 ! FULL; found 12 0 -1 ! BEYOND; found 0 26 -1 ! BEYOND; found 0 25 -1 ! MISSING",
            "found 0 25 1 ! FULL"));
        S.of("saved: in a WEEK (0 .. the open one)",
            "member 1 1; save 0 5; saved 0 1 0 ! BEYOND; run 2; saved 0 3 0 ! BEYOND; saved 0 -1 0 ! BEYOND",
            "saved 0 MAX 0 ! BEYOND; saved 0 MIN 0 ! BEYOND; saved 0 0 0 = 5; saved 0 2 0 = 5");
        S.of("saved: as KNOWN in a WEEK (likewise)",
            "member 1 1; save 0 5; saved 0 0 1 ! BEYOND; run 2; saved 0 0 3 ! BEYOND; saved 0 0 -1 ! BEYOND",
            "saved 0 0 MAX ! BEYOND; saved 0 0 MIN ! BEYOND; saved 0 0 0 = 5; saved 0 0 2 = 5");
        S.of("saved: BEYOND: 0",
            "saved 0 0 0 ! BEYOND; member 1 1; saved 1 0 0 ! BEYOND; saved -1 0 0 ! BEYOND; saved MAX 0 0 ! BEYOND",
            "saved MIN 0 0 ! BEYOND; saved 0 0 0 = 0");
    }

    private static void promise8() {
        S.of("look: what 0 .. 9; NO: 0",
            "member 3 4; look 0 -1 ! NO; look 0 10 ! NO; look 0 MIN ! NO; look 0 MAX ! NO; look 0 0 = 3; look 0 9 = 0");
        S.of("look: BEYOND: 0; it goes ahead of NO",
            "look 0 0 ! BEYOND; member 1 1; look 1 0 ! BEYOND; look -1 -1 ! BEYOND; look MAX 10 ! BEYOND",
            "look MIN 0 ! BEYOND");
        S.of("look: the WEEK in which it DIED (3; NONE)", "member 1 1; look 0 3 = NONE; died 0 0; look 0 3 = 0");
        // 9 for 1 week, no INTEREST; another's loan is nothing to it.
        S.of("look: OWED by its open LOANS (5)",
            "member 1 1; member 2 2; save 0 90; save 1 90; look 0 5 = 0; ask 0 9 1; ask 0 8 1; ask 10 7 1",
            "answer 0 = 0; look 0 5 = 9; answer 1 = 0; look 0 5 = 17; answer 2 = 0; look 0 5 = 17; look 1 5 = 7",
            "pay 1 8 = 0; look 0 5 = 9; run 14; loanOf 0 7 = 2; look 0 5 = 0; look 1 5 = 0");
        S.of("look: how many are LATE (6)",
            "member 1 1; member 2 2; save 0 90; ask 0 9 1; ask 0 8 2; ask 10 7 1; answer 0; answer 1; answer 2; run 1",
            "look 0 6 = 0; run 1; look 0 6 = 2; look 1 6 = 1; pay 1 3; look 0 6 = 2; pay 1 1; look 0 6 = 1; pay 0 9",
            "look 0 6 = 0; run 1; look 0 6 = 1; pay 1 4; look 0 6 = 0; run 11; look 1 6 = 0; loanOf 2 7 = 2");
        S.of("look: the WEEK of its last act (8): to join, to save, draw or pay",
            "member 1 1; run 1; member 2 2; look 0 8 = 0; look 1 8 = 1; run 1; save 0 50; look 0 8 = 2; look 1 8 = 1",
            "run 1; draw 0 5; look 0 8 = 3; run 1; ask 0 5 1; answer 0 = 0; look 0 8 = 3; run 1; pay 0 1",
            "look 0 8 = 5; look 1 8 = 1; run 1; found 0 0 1; back 0 1 5 ! NO; duty 0; book 0 0 1; look 0 8 = 5",
            "save 0 0 ! NO; look 0 8 = 5");
        S.of("look: how many LATE ENTRIES of the dead it has (9): for WEEKS behind that one; 0 if it lives",
            "run 1; member 1 1; save 0 5; run 1; save 0 5; run 1; found 0 1 1; found 0 2 1; look 0 9 = 0; died 0 3",
            "look 0 9 = 0; died 0 2; look 0 9 = 0; died 0 1; look 0 9 = 2; found 0 2 -1; look 0 9 = 2; draw 0 1",
            "look 0 9 = 3");
        S.of("LATE ENTRIES of the dead: the first ENTRY too, and those of another are none",
            "member 1 1; member 2 2; run 1; save 0 5; save 1 5; died 0 0; look 0 9 = 1; look 1 9 = 0");
        S.of("LATE ENTRIES of the dead: its own alone",
            "3 x member 1 1; save 1 1; run 1; save 0 1; save 1 1; run 1; save 1 1; save 0 1; save 2 1; died 0 1",
            "died 1 0; died 2 1; look 0 9 = 1; look 1 9 = 2; look 2 9 = 1; died 0 0; look 0 9 = 2; died 1 1",
            "look 1 9 = 1; died 1 2; look 1 9 = 0; died 2 2; look 2 9 = 0");
        S.of("LATE ENTRIES of the dead: with those by partings, FAILURES",
            "member 1 1; save 0 5000; ask 0 1000 10; answer 0; pay 0 1010; ask 0 500 1; answer 1; died 0 0",
            "look 0 9 = 0; run 13; look 0 9 = 0; run 1 = 1; look 0 9 = 1; run 38; look 0 9 = 2; run 1; voided = 8",
            "look 0 9 = 3");
    }
}
