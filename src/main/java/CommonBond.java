import java.util.Arrays;

/** A common bond: members who save by weeks and are lent by rules that are read as texts. */
public final class CommonBond {
    public static final int NONE = -1;
    public static final int MISSING = -2;
    public static final int BEYOND = -3;
    public static final int BELOW = -4;
    public static final int KIND = -5;
    public static final int COPY = -6;
    public static final int NO = -7;
    public static final int FULL = -8;

    private static final int MEMBERS = 16;
    private static final int MOST_WORK = 9;
    private static final int MOST_STREET = 9;
    private static final int LAST_WEEK = 400;
    private static final int FARTHEST_WEEK = 1000;
    private static final int MOST_RUN_WEEKS = 60;
    private static final int MOST_AT_ONCE = 99999;
    private static final int MOST_COUNTED = 9999999;

    private static final int BY_HAND = 300;
    // 300 by hand, 24 loans that fail on 5 members each, 7 years that are parted to 16 and void.
    private static final int ENTRIES = 700;

    private static final int ASKS = 24;
    private static final int LOANS = 24;
    private static final int BACKERS = 4;
    private static final int MOST_ASK_WEEKS = 60;
    private static final int WHOLE = 10000;

    private static final int LOAN = 0;
    private static final int SMALL = 1;
    private static final int SECURED = 2;
    private static final int BACKED = 3;
    private static final int BRIDGE = 4;
    private static final int OLD = 5;
    private static final int LAST_KIND = 5;
    private static final int[] UNDER = {-1, 0, 0, 0, 3, 2};

    private static final int GRANTED = 0;
    private static final int BARRED = 1;
    private static final int TOO_MUCH = 2;
    private static final int IN_ARREARS = 3;
    private static final int UNBACKED = 4;
    private static final int NO_CASH = 5;

    private static final int OPEN = 0;
    private static final int PAID_WHOLE = 1;
    private static final int FAILED = 2;
    private static final int FAILING_WEEKS = 13;

    private static final int RULES = 12;
    private static final int TAPE = 120;
    private static final int MOST_BYTES = 4;
    private static final int MOST_OPEN = 6;
    private static final int MOST_DIGITS = 5;
    private static final int FIRST_FAULT = -10;

    private static final int BOND = 0;
    private static final int LIMIT = 1;
    private static final int RATE = 2;
    private static final int RESERVE = 3;
    private static final int DIV = 4;
    private static final int DORMANT = 5;
    private static final int LAST_KEY = 5;
    private static final int[] OTHERWISE = {1, 5000, 10, 20, 50, 0};

    private static final int NAMES = 10;
    private static final int OF_WORK = 0;
    private static final int OF_STREET = 1;
    private static final int OF_SAVED = 2;
    private static final int OF_OWED = 3;
    private static final int OF_JOINED = 4;
    private static final int OF_LATE = 5;
    private static final int OF_KIND = 6;
    private static final int OF_SUM = 7;
    private static final int OF_WEEK = 8;
    private static final int OF_CASH = 9;

    // What a rule is worked by: 0 and above is a number, -1 to -10 a name, below these a sign.
    private static final int FIRST_NAME = -1;
    private static final int DO_OR = -11;
    private static final int DO_AND = -12;
    private static final int DO_NOT = -13;
    private static final int DO_LIKE = -14;
    private static final int DO_LESS = -15;
    private static final int DO_MORE = -16;
    private static final int DO_PLUS = -17;
    private static final int DO_MINUS = -18;
    private static final int DO_TIMES = -19;
    private static final int DO_BY = -20;
    private static final int DO_REST = -21;
    private static final int DO_NEGATE = -22;

    private static final int YEARS = 7;
    private static final int YEAR_WEEKS = 52;
    private static final int YEAR_SUMS = 7;
    private static final int EARNED = 0;
    private static final int LOST = 1;
    private static final int SURPLUS = 2;
    private static final int TO_RESERVE = 3;
    private static final int DIVIDEND = 4;
    private static final int REBATE = 5;
    private static final int VOID = 6;

    private static final int RUNS = 4;
    private static final int RUN_WEEKS = 8;
    private static final int MOST_CHOSEN = 8;
    private static final int COUNTS = 20;
    private static final int BOOKS = 20;
    private static final int ROW = 12;
    private static final int FIRST_ASK = 100;

    private final State now = new State();
    private final State kept = new State();
    private boolean imaged = false;
    private final Reader reader = new Reader();
    private final Lender lender;
    private final Closer closer;
    private final Planner planner;
    private final int[] row = new int[ROW];
    private int rowSize = MISSING;
    // How often each answer from -8 (place 8) to -2 (place 2) refused a call.
    private final int[] refused = new int[9];

    public CommonBond() {
        lender = new Lender(now);
        closer = new Closer(now, lender);
        planner = new Planner(now, lender);
    }

    // ---- members, savings

    public int member(int work, int street) {
        if (outside(work, 0, MOST_WORK) || outside(street, 0, MOST_STREET)) {
            return refuse(NO);
        }
        if (now.members >= MEMBERS) {
            return refuse(FULL);
        }
        return now.join(work, street);
    }

    public int died(int member, int week) {
        if (noMember(member)) {
            return tellZero(BEYOND);
        }
        if (outside(week, now.joined[member], now.week)) {
            return tellZero(NO);
        }
        int before = now.death[member];
        now.death[member] = week;
        return before;
    }

    public int save(int member, int n) {
        if (noMember(member)) {
            return refuse(BEYOND);
        }
        if (outside(n, 1, MOST_AT_ONCE) || now.death[member] != NONE) {
            return refuse(NO);
        }
        if (!now.ledger.hasRoom(member, now.week, now.week)) {
            return refuse(FULL);
        }
        now.acted[member] = now.week;
        return now.move(member, now.week, n);
    }

    public int draw(int member, int n) {
        if (noMember(member)) {
            return refuse(BEYOND);
        }
        if (outside(n, 1, MOST_AT_ONCE) || n > now.ledger.total[member] - now.loans.heldOf(member)) {
            return refuse(NO);
        }
        if (n > now.ledger.cash) {
            return refuse(MISSING);
        }
        if (!now.ledger.hasRoom(member, now.week, now.week)) {
            return refuse(FULL);
        }
        now.acted[member] = now.week;
        return now.move(member, now.week, -n);
    }

    public int found(int member, int week, int n) {
        if (noMember(member) || outside(week, 0, now.week - 1)) {
            return refuse(BEYOND);
        }
        if (n == 0 || outside(n, -MOST_AT_ONCE, MOST_AT_ONCE)) {
            return refuse(NO);
        }
        if (now.ledger.cash + n < 0) {
            return refuse(MISSING);
        }
        if (!now.ledger.hasRoom(member, week, now.week)) {
            return refuse(FULL);
        }
        return now.move(member, week, n);
    }

    public int saved(int member, int week, int as) {
        if (noMember(member) || noWeek(week) || noWeek(as)) {
            return tellZero(BEYOND);
        }
        return now.ledger.savedIn(member, week, as);
    }

    public int look(int member, int what) {
        if (noMember(member)) {
            return tellZero(BEYOND);
        }
        switch (what) {
            case 0: return now.work[member];
            case 1: return now.street[member];
            case 2: return now.joined[member];
            case 3: return now.death[member];
            case 4: return now.loans.heldOf(member);
            case 5: return now.loans.owedOf(member);
            case 6: return now.loans.lateOf(member, now.week - 1);
            case 7: return lender.isDormant(member) ? 1 : 0;
            case 8: return now.acted[member];
            case 9: return now.entriesBehindDeath(member);
            default: return tellZero(NO);
        }
    }

    // ---- asks, loans

    public int ask(int of, int sum, int weeks) {
        if (of < 0 || noMember(of / 10)) {
            return refuse(BEYOND);
        }
        if (of % 10 > LAST_KIND || outside(sum, 1, MOST_AT_ONCE) || outside(weeks, 1, MOST_ASK_WEEKS)) {
            return refuse(NO);
        }
        if (now.asks.size >= ASKS) {
            return refuse(FULL);
        }
        return now.asks.add(of / 10, of % 10, sum, weeks);
    }

    public int back(int ask, int member, int pledge) {
        if (noAsk(ask) || noMember(member)) {
            return refuse(BEYOND);
        }
        Asks asks = now.asks;
        if (asks.member[ask] == member || outside(pledge, 1, MOST_AT_ONCE)) {
            return refuse(NO);
        }
        if (asks.hasBacker(ask, member) || asks.given[ask] != NONE) {
            return refuse(NO);
        }
        if (asks.backers[ask] >= BACKERS) {
            return refuse(FULL);
        }
        return asks.addBacker(ask, member, pledge);
    }

    public int askOf(int ask, int what) {
        if (noAsk(ask)) {
            return tellZero(BEYOND);
        }
        switch (what) {
            case 0: return now.asks.member[ask];
            case 1: return now.asks.kind[ask];
            case 2: return now.asks.sum[ask];
            case 3: return now.asks.weeks[ask];
            case 4: return now.asks.pledges(ask);
            case 5: return lender.limitOf(ask);
            case 6: return lender.interestOf(ask);
            case 7: return now.asks.given[ask];
            case 8: return now.asks.given[ask] != NONE ? NONE : lender.answerNow(ask);
            case 9: return now.asks.loan[ask];
            default: return tellZero(NO);
        }
    }

    public int answer(int ask) {
        if (noAsk(ask)) {
            return refuse(BEYOND);
        }
        if (now.asks.given[ask] != NONE) {
            return refuse(NO);
        }
        int given = lender.answerNow(ask);
        now.asks.given[ask] = given;
        if (given == GRANTED) {
            lender.lend(ask);
        }
        return given;
    }

    public int pay(int loan, int n) {
        if (noLoan(loan)) {
            return refuse(BEYOND);
        }
        Loans loans = now.loans;
        if (loans.state[loan] != OPEN || outside(n, 1, loans.owedBy(loan))) {
            return refuse(NO);
        }
        now.ledger.cash += n;
        now.acted[loans.member[loan]] = now.week;
        return loans.payOff(loan, n);
    }

    public int loanOf(int loan, int what) {
        if (noLoan(loan)) {
            return refuse(BEYOND);
        }
        Loans loans = now.loans;
        switch (what) {
            case 0: return loans.ask[loan];
            case 1: return loans.lent[loan];
            case 2: return loans.interest[loan];
            case 3: return loans.paid[loan];
            case 4: return loans.dueThrough(loan, now.week - 1);
            case 5: return loans.owedBy(loan);
            case 6: return loans.lateWeeks[loan];
            case 7: return loans.state[loan];
            case 8: return loans.fromMember[loan];
            case 9: return loans.fromBackers[loan];
            case 10: return loans.lost[loan];
            default: return refuse(NO);
        }
    }

    public int dues(int loan, int week) {
        if (noLoan(loan) || outside(week, 0, FARTHEST_WEEK)) {
            return tellZero(BEYOND);
        }
        return now.loans.dueIn(loan, week);
    }

    public int taken(int loan, int k) {
        if (noLoan(loan)) {
            return refuse(BEYOND);
        }
        if (outside(k, LOAN, LAST_KIND)) {
            return refuse(NO);
        }
        if (!Asks.isOf(now.loans.kind[loan], k)) {
            return refuse(KIND);
        }
        return now.loans.sum[loan];
    }

    public int alike(int a, int b) {
        if (noAsk(a) || noAsk(b)) {
            return refuse(BEYOND);
        }
        if (a == b) {
            return refuse(NO);
        }
        return now.asks.likeness(a, b);
    }

    // ---- rules

    public int feed(int bytes, int n) {
        if (n < 0) {
            return refuse(BELOW);
        }
        if (n > MOST_BYTES) {
            return refuse(NO);
        }
        if (reader.size + n > TAPE) {
            return refuse(FULL);
        }
        return reader.append(bytes, n);
    }

    public int wipe() {
        int before = reader.size;
        reader.size = 0;
        return before;
    }

    public int rule(int from, int to) {
        if (outside(from, 0, FARTHEST_WEEK) || outside(to, 0, FARTHEST_WEEK) || from >= to) {
            return refuse(NO);
        }
        if (now.rules.size >= RULES) {
            return refuse(FULL);
        }
        if (!reader.readRule()) {
            return FIRST_FAULT - reader.fault;
        }
        reader.size = 0;
        return now.rules.add(reader, from, to);
    }

    public int says(int key, int who) {
        if (outside(key, BOND, LAST_KEY) || nobody(who)) {
            return tellZero(BEYOND);
        }
        knowWho(who);
        return lender.told(key);
    }

    public int why(int key, int who) {
        if (outside(key, BOND, LAST_KEY) || nobody(who)) {
            return refuse(BEYOND);
        }
        knowWho(who);
        return lender.ruleTelling(key);
    }

    // ---- weeks, years

    public int run(int n) {
        if (n < 0) {
            return refuse(BELOW);
        }
        if (n == 0 || n > MOST_RUN_WEEKS) {
            return refuse(NO);
        }
        if (now.week + n > LAST_WEEK) {
            return refuse(FULL);
        }
        int failed = 0;
        for (int i = 0; i < n; i++) {
            failed += closer.closeWeek();
        }
        return failed;
    }

    public int cost(int n) {
        if (outside(n, 1, MOST_AT_ONCE)) {
            return refuse(NO);
        }
        if (now.ledger.cash < n) {
            return refuse(MISSING);
        }
        now.ledger.cash -= n;
        now.ledger.reserve -= n;
        return now.ledger.cash;
    }

    public long year(int year, int what) {
        if (outside(year, 0, now.years.closed - 1)) {
            return tellZero(BEYOND);
        }
        if (outside(what, EARNED, VOID)) {
            return tellZero(NO);
        }
        return now.years.sums[year][what];
    }

    public long got(int year, int member, int what) {
        if (outside(year, 0, now.years.closed - 1) || noMember(member)) {
            return tellZero(BEYOND);
        }
        switch (what) {
            case 0: return now.years.dividend[year][member];
            case 1: return now.years.rebate[year][member];
            case 2: return now.years.shares[year][member];
            case 3: return now.years.earned[year][member];
            case 4: return now.ledger.shareWeeks(member, year * YEAR_WEEKS);
            case 5: return closer.reworked(year, member);
            default: return tellZero(NO);
        }
    }

    public int voided() {
        int last = now.years.closed - 1;
        if (last < 0 || !closer.mayVoid(last)) {
            return refuse(NO);
        }
        return closer.takeBack(last);
    }

    // ---- runs, falls

    public int runs(int run, int w, int n) {
        if (outside(run, 0, RUNS - 1) || outside(w, 0, RUN_WEEKS - 1)) {
            return tellZero(BEYOND);
        }
        if (outside(n, 0, MOST_AT_ONCE)) {
            return tellZero(NO);
        }
        int before = now.drawn[run][w];
        now.drawn[run][w] = n;
        now.told[run] = 1;
        return before;
    }

    public int calm(int run) {
        if (outside(run, 0, RUNS - 1)) {
            return refuse(BEYOND);
        }
        int before = now.told[run];
        now.told[run] = 0;
        Arrays.fill(now.drawn[run], 0);
        return before;
    }

    public int best(int asks) {
        if (outside(asks, 0, (1 << now.asks.size) - 1) || Integer.bitCount(asks) > MOST_CHOSEN) {
            return refuse(NO);
        }
        return planner.bestOf(asks);
    }

    public int judge() {
        if (rowSize < 0) {
            return refuse(MISSING);
        }
        int set = 0;
        for (int i = 0; i < rowSize; i++) {
            if (noAsk(row[i]) || (set >> row[i] & 1) != 0 || !planner.mayJoin(row[i])) {
                return refuse(NO);
            }
            set |= 1 << row[i];
        }
        return planner.lasts(set) ? 1 : 0;
    }

    public int fall(int member, int what) {
        if (noMember(member)) {
            return refuse(BEYOND);
        }
        if (outside(what, 0, 2)) {
            return refuse(NO);
        }
        planner.fell(member);
        switch (what) {
            case 0: return planner.fallen;
            case 1: return planner.fallLost;
            default: return planner.rounds;
        }
    }

    // ---- tills, books

    public int duty(int member) {
        if (noMember(member)) {
            return refuse(BEYOND);
        }
        int before = now.till.onDuty[now.week];
        now.till.onDuty[now.week] = member;
        return before;
    }

    public int counted(int n) {
        if (outside(n, 0, MOST_COUNTED)) {
            return tellZero(NO);
        }
        if (now.till.counts >= COUNTS) {
            return tellZero(FULL);
        }
        return now.till.addCount(now.week, now.ledger.cash - n);
    }

    public int suspects() {
        return now.till.suspected();
    }

    public int book(int member, int week, int much) {
        if (noMember(member) || noWeek(week)) {
            return refuse(BEYOND);
        }
        if (outside(much, -MOST_COUNTED, MOST_COUNTED)) {
            return refuse(NO);
        }
        if (now.till.books >= BOOKS) {
            return refuse(FULL);
        }
        return now.till.addBook(member, week, much);
    }

    public int wrong() {
        int bits = 0;
        for (int i = 0; i < now.till.books; i++) {
            int is = now.ledger.savedIn(now.till.bookMember[i], now.till.bookWeek[i], now.week);
            if (is != now.till.bookMuch[i]) {
                bits |= 1 << i;
            }
        }
        return bits;
    }

    public int count(int what) {
        switch (what) {
            case 0: return now.week;
            case 1: return now.members;
            case 2: return now.ledger.size;
            case 3: return now.ledger.cash;
            case 4: return (int) now.ledger.reserve;
            case 5: return now.asks.size;
            case 6: return now.loans.size;
            case 7: return now.loans.openOnes();
            case 8: return now.rules.size;
            case 9: return reader.size;
            case 10: return now.years.closed;
            case 11: return now.till.books;
            case 12: return now.till.counts;
            case 13: return lender.dormantOnes();
            case 14: return now.ledger.savedByAll();
            case 15: return now.loans.owedByAll();
            default: return tellZero(NO);
        }
    }

    public int image() {
        kept.become(now);
        imaged = true;
        return now.week;
    }

    public int undo() {
        if (!imaged) {
            return refuse(MISSING);
        }
        now.become(kept);
        return now.week;
    }

    // ---- rows

    public int lay(int n) {
        if (n < 0) {
            return refuse(BELOW);
        }
        if (n > ROW) {
            return refuse(NO);
        }
        Arrays.fill(row, 0);
        rowSize = n;
        return n;
    }

    public int set(int i, int v) {
        if (rowSize < 0) {
            return tellZero(MISSING);
        }
        if (outside(i, 0, rowSize - 1)) {
            return tellZero(BEYOND);
        }
        int before = row[i];
        row[i] = v;
        return before;
    }

    public int tear() {
        int there = rowSize < 0 ? 0 : 1;
        rowSize = MISSING;
        return there;
    }

    public int row(int i) {
        if (rowSize < 0) {
            return tellZero(MISSING);
        }
        if (outside(i, 0, rowSize - 1)) {
            return tellZero(BEYOND);
        }
        return row[i];
    }

    public int copy(int i, int j, int n) {
        if (rowSize < 0) {
            return refuse(MISSING);
        }
        if (n < 0) {
            return refuse(BELOW);
        }
        // n is taken from the size, not added to a place: a sum could wrap around.
        if (i < 0 || j < 0 || i > rowSize - n || j > rowSize - n) {
            return refuse(COPY);
        }
        System.arraycopy(row, i, row, j, n);
        return n;
    }

    public int status(int by) {
        if (outside(by, FULL, MISSING)) {
            return refuse(NO);
        }
        return refused[-by];
    }

    private int refuse(int by) {
        if (by >= FULL && by <= MISSING) {
            refused[-by]++;
        }
        return by;
    }

    private int tellZero(int by) {
        refuse(by);
        return 0;
    }

    private static boolean outside(int n, int low, int high) {
        return n < low || n > high;
    }

    private boolean noMember(int member) {
        return member < 0 || member >= now.members;
    }

    private boolean noAsk(int ask) {
        return ask < 0 || ask >= now.asks.size;
    }

    private boolean noLoan(int loan) {
        return loan < 0 || loan >= now.loans.size;
    }

    private boolean noWeek(int week) {
        return week < 0 || week > now.week;
    }

    private boolean nobody(int who) {
        if (who >= FIRST_ASK) {
            return noAsk(who - FIRST_ASK);
        }
        return who != NONE && noMember(who);
    }

    private void knowWho(int who) {
        if (who >= FIRST_ASK) {
            lender.knowAsk(who - FIRST_ASK);
        } else {
            lender.knowMember(who);
        }
    }

    /** All that an image keeps. */
    private static final class State {
        int week = 0;
        int members = 0;
        final int[] work = new int[MEMBERS];
        final int[] street = new int[MEMBERS];
        final int[] joined = new int[MEMBERS];
        final int[] death = new int[MEMBERS];
        final int[] acted = new int[MEMBERS];
        final Ledger ledger = new Ledger();
        final Asks asks = new Asks();
        final Loans loans = new Loans();
        final Rules rules = new Rules();
        final Years years = new Years();
        final Till till = new Till();
        final int[] told = new int[RUNS];
        final int[][] drawn = new int[RUNS][RUN_WEEKS];

        int join(int itsWork, int itsStreet) {
            int member = members;
            work[member] = itsWork;
            street[member] = itsStreet;
            joined[member] = week;
            death[member] = NONE;
            acted[member] = week;
            members++;
            return member;
        }

        /** What comes to a member (or goes, below 0) by cash. */
        int move(int member, int forWeek, int much) {
            ledger.enter(member, forWeek, week, much);
            ledger.cash += much;
            return ledger.total[member];
        }

        int entriesBehindDeath(int member) {
            return death[member] == NONE ? 0 : ledger.entriesBehind(member, death[member]);
        }

        void become(State other) {
            week = other.week;
            members = other.members;
            System.arraycopy(other.work, 0, work, 0, MEMBERS);
            System.arraycopy(other.street, 0, street, 0, MEMBERS);
            System.arraycopy(other.joined, 0, joined, 0, MEMBERS);
            System.arraycopy(other.death, 0, death, 0, MEMBERS);
            System.arraycopy(other.acted, 0, acted, 0, MEMBERS);
            ledger.become(other.ledger);
            asks.become(other.asks);
            loans.become(other.loans);
            rules.become(other.rules);
            years.become(other.years);
            till.become(other.till);
            System.arraycopy(other.told, 0, told, 0, RUNS);
            for (int i = 0; i < RUNS; i++) {
                System.arraycopy(other.drawn[i], 0, drawn[i], 0, RUN_WEEKS);
            }
        }
    }

    /** The entries of all members, the cash and the reserve. */
    private static final class Ledger {
        int size = 0;
        final int[] owner = new int[ENTRIES];
        final int[] forWeek = new int[ENTRIES];
        final int[] toldIn = new int[ENTRIES];
        final int[] much = new int[ENTRIES];
        // What each member has saved now, kept so that no call adds up all entries for it.
        final int[] total = new int[MEMBERS];
        final int[] change = new int[YEAR_WEEKS];
        int cash = 0;
        long reserve = 0;

        int place(int member, int week, int told) {
            for (int i = size - 1; i >= 0; i--) {
                if (owner[i] == member && forWeek[i] == week && toldIn[i] == told) {
                    return i;
                }
            }
            return NONE;
        }

        boolean hasRoom(int member, int week, int told) {
            return size < BY_HAND || place(member, week, told) >= 0;
        }

        void enter(int member, int week, int told, int sum) {
            int at = place(member, week, told);
            if (at < 0) {
                if (size >= ENTRIES) {
                    return;
                }
                at = size;
                size++;
                owner[at] = member;
                forWeek[at] = week;
                toldIn[at] = told;
                much[at] = 0;
            }
            much[at] += sum;
            total[member] += sum;
        }

        int savedIn(int member, int week, int known) {
            int sum = 0;
            for (int i = 0; i < size; i++) {
                if (owner[i] == member && forWeek[i] <= week && toldIn[i] <= known) {
                    sum += much[i];
                }
            }
            return sum;
        }

        int savedByAll() {
            int sum = 0;
            for (int i = 0; i < MEMBERS; i++) {
                sum += total[i];
            }
            return sum;
        }

        int entriesBehind(int member, int week) {
            int found = 0;
            for (int i = 0; i < size; i++) {
                if (owner[i] == member && forWeek[i] > week) {
                    found++;
                }
            }
            return found;
        }

        /** The share-weeks of the year that begins in a week, by all entries that are known now. */
        long shareWeeks(int member, int first) {
            Arrays.fill(change, 0);
            for (int i = 0; i < size; i++) {
                int at = Math.max(0, forWeek[i] - first);
                if (owner[i] == member && at < YEAR_WEEKS) {
                    change[at] += much[i];
                }
            }
            long shares = 0;
            int sum = 0;
            for (int i = 0; i < YEAR_WEEKS; i++) {
                sum += change[i];
                shares += Math.max(0, sum);
            }
            return shares;
        }

        void become(Ledger other) {
            size = other.size;
            System.arraycopy(other.owner, 0, owner, 0, size);
            System.arraycopy(other.forWeek, 0, forWeek, 0, size);
            System.arraycopy(other.toldIn, 0, toldIn, 0, size);
            System.arraycopy(other.much, 0, much, 0, size);
            System.arraycopy(other.total, 0, total, 0, MEMBERS);
            cash = other.cash;
            reserve = other.reserve;
        }
    }

    /** The asks, their backers and how they were answered. */
    private static final class Asks {
        int size = 0;
        final int[] member = new int[ASKS];
        final int[] kind = new int[ASKS];
        final int[] sum = new int[ASKS];
        final int[] weeks = new int[ASKS];
        final int[] given = new int[ASKS];
        final int[] loan = new int[ASKS];
        final int[] backers = new int[ASKS];
        final int[][] backer = new int[ASKS][BACKERS];
        final int[][] pledge = new int[ASKS][BACKERS];

        /** Whether a kind is another one or stands under it. */
        static boolean isOf(int kind, int other) {
            int up = kind;
            for (int i = 0; i <= LAST_KIND && up >= 0 && up <= LAST_KIND; i++) {
                if (up == other) {
                    return true;
                }
                up = UNDER[up];
            }
            return false;
        }

        int add(int itsMember, int itsKind, int itsSum, int itsWeeks) {
            int ask = size;
            member[ask] = itsMember;
            kind[ask] = itsKind;
            sum[ask] = itsSum;
            weeks[ask] = itsWeeks;
            given[ask] = NONE;
            loan[ask] = NONE;
            backers[ask] = 0;
            size++;
            return ask;
        }

        int addBacker(int ask, int itsBacker, int itsPledge) {
            int at = backers[ask];
            backer[ask][at] = itsBacker;
            pledge[ask][at] = itsPledge;
            backers[ask] = at + 1;
            return at + 1;
        }

        boolean hasBacker(int ask, int who) {
            for (int i = 0; i < backers[ask]; i++) {
                if (backer[ask][i] == who) {
                    return true;
                }
            }
            return false;
        }

        int pledges(int ask) {
            int all = 0;
            for (int i = 0; i < backers[ask]; i++) {
                all += pledge[ask][i];
            }
            return all;
        }

        int likeness(int a, int b) {
            if (given[a] == NONE || given[b] == NONE) {
                return 0;
            }
            if (kind[a] != kind[b] || sum[a] != sum[b] || weeks[a] != weeks[b]) {
                return 0;
            }
            return given[a] == given[b] ? 1 : 2;
        }

        void become(Asks other) {
            size = other.size;
            System.arraycopy(other.member, 0, member, 0, size);
            System.arraycopy(other.kind, 0, kind, 0, size);
            System.arraycopy(other.sum, 0, sum, 0, size);
            System.arraycopy(other.weeks, 0, weeks, 0, size);
            System.arraycopy(other.given, 0, given, 0, size);
            System.arraycopy(other.loan, 0, loan, 0, size);
            System.arraycopy(other.backers, 0, backers, 0, size);
            for (int i = 0; i < size; i++) {
                System.arraycopy(other.backer[i], 0, backer[i], 0, BACKERS);
                System.arraycopy(other.pledge[i], 0, pledge[i], 0, BACKERS);
            }
        }
    }

    /** The loans, what is due and paid of them, and on whom they failed. */
    private static final class Loans {
        int size = 0;
        final int[] ask = new int[LOANS];
        final int[] member = new int[LOANS];
        final int[] kind = new int[LOANS];
        final int[] sum = new int[LOANS];
        final int[] weeks = new int[LOANS];
        final int[] lent = new int[LOANS];
        final int[] interest = new int[LOANS];
        final int[] usual = new int[LOANS];
        final int[] paid = new int[LOANS];
        final int[] lateWeeks = new int[LOANS];
        final int[] state = new int[LOANS];
        final int[] fromMember = new int[LOANS];
        final int[] fromBackers = new int[LOANS];
        final int[] lost = new int[LOANS];
        final long[] earned = new long[LOANS];

        /** What is due in each week but the last. */
        static int usualDue(int kind, int sum, int interest, int weeks) {
            if (kind == BRIDGE || weeks < 1) {
                return 0;
            }
            return kind == OLD ? interest / weeks : (sum + interest) / weeks;
        }

        int add(Asks asks, int itsAsk, int week, int itsInterest) {
            int loan = size;
            if (loan >= LOANS) {
                return NONE;
            }
            ask[loan] = itsAsk;
            member[loan] = asks.member[itsAsk];
            kind[loan] = asks.kind[itsAsk];
            sum[loan] = asks.sum[itsAsk];
            weeks[loan] = asks.weeks[itsAsk];
            lent[loan] = week;
            interest[loan] = itsInterest;
            usual[loan] = usualDue(kind[loan], sum[loan], itsInterest, weeks[loan]);
            paid[loan] = 0;
            lateWeeks[loan] = 0;
            state[loan] = OPEN;
            fromMember[loan] = 0;
            fromBackers[loan] = 0;
            lost[loan] = 0;
            earned[loan] = 0;
            size++;
            return loan;
        }

        int owedBy(int loan) {
            return sum[loan] + interest[loan] - paid[loan];
        }

        int payOff(int loan, int n) {
            paid[loan] += n;
            if (owedBy(loan) == 0) {
                state[loan] = PAID_WHOLE;
            }
            return owedBy(loan);
        }

        int dueIn(int loan, int week) {
            return dueThrough(loan, week) - dueThrough(loan, week - 1);
        }

        /** What is due by the end of a week. */
        int dueThrough(int loan, int week) {
            int gone = week - lent[loan];
            if (gone <= 0) {
                return 0;
            }
            if (gone >= weeks[loan]) {
                return sum[loan] + interest[loan];
            }
            return gone * usual[loan];
        }

        boolean isLate(int loan, int week) {
            return state[loan] == OPEN && paid[loan] < dueThrough(loan, week);
        }

        int lateOf(int who, int week) {
            int late = 0;
            for (int i = 0; i < size; i++) {
                if (member[i] == who && state[i] == OPEN && paid[i] < dueThrough(i, week)) {
                    late++;
                }
            }
            return late;
        }

        boolean hasFailed(int who) {
            for (int i = 0; i < size; i++) {
                if (member[i] == who && state[i] == FAILED) {
                    return true;
                }
            }
            return false;
        }

        int owedOf(int who) {
            int all = 0;
            for (int i = 0; i < size; i++) {
                if (member[i] == who && state[i] == OPEN) {
                    all += owedBy(i);
                }
            }
            return all;
        }

        int heldOf(int who) {
            int all = 0;
            for (int i = 0; i < size; i++) {
                if (member[i] == who && state[i] == OPEN && Asks.isOf(kind[i], SECURED)) {
                    all += owedBy(i);
                }
            }
            return all;
        }

        int openOnes() {
            int all = 0;
            for (int i = 0; i < size; i++) {
                if (state[i] == OPEN) {
                    all++;
                }
            }
            return all;
        }

        int owedByAll() {
            int all = 0;
            for (int i = 0; i < size; i++) {
                if (state[i] == OPEN) {
                    all += owedBy(i);
                }
            }
            return all;
        }

        int dueOfAll(int week) {
            int all = 0;
            for (int i = 0; i < size; i++) {
                if (state[i] == OPEN) {
                    all += dueIn(i, week);
                }
            }
            return all;
        }

        void become(Loans other) {
            size = other.size;
            System.arraycopy(other.ask, 0, ask, 0, size);
            System.arraycopy(other.member, 0, member, 0, size);
            System.arraycopy(other.kind, 0, kind, 0, size);
            System.arraycopy(other.sum, 0, sum, 0, size);
            System.arraycopy(other.weeks, 0, weeks, 0, size);
            System.arraycopy(other.lent, 0, lent, 0, size);
            System.arraycopy(other.interest, 0, interest, 0, size);
            System.arraycopy(other.usual, 0, usual, 0, size);
            System.arraycopy(other.paid, 0, paid, 0, size);
            System.arraycopy(other.lateWeeks, 0, lateWeeks, 0, size);
            System.arraycopy(other.state, 0, state, 0, size);
            System.arraycopy(other.fromMember, 0, fromMember, 0, size);
            System.arraycopy(other.fromBackers, 0, fromBackers, 0, size);
            System.arraycopy(other.lost, 0, lost, 0, size);
            System.arraycopy(other.earned, 0, earned, 0, size);
        }
    }

    /** The rules as they are worked: each part behind what it is made of, the if behind all. */
    private static final class Rules {
        int size = 0;
        final int[] key = new int[RULES];
        final int[] from = new int[RULES];
        final int[] to = new int[RULES];
        final int[] ifAt = new int[RULES];
        final int[] end = new int[RULES];
        final int[][] code = new int[RULES][TAPE];
        final int[] stack = new int[TAPE];

        int add(Reader read, int itsFrom, int itsTo) {
            int rule = size;
            key[rule] = read.key;
            from[rule] = itsFrom;
            to[rule] = itsTo;
            ifAt[rule] = read.ifAt;
            end[rule] = read.length;
            System.arraycopy(read.code, 0, code[rule], 0, read.length);
            size++;
            return rule;
        }

        /** The rule that says a key in a week, or NONE. */
        int ruleFor(int itsKey, int week, int[] names) {
            for (int i = size - 1; i >= 0; i--) {
                boolean isFor = key[i] == itsKey && from[i] <= week && week < to[i];
                if (isFor && (ifAt[i] == end[i] || work(i, ifAt[i], end[i], names) != 0)) {
                    return i;
                }
            }
            return NONE;
        }

        int valueOf(int rule, int[] names) {
            return work(rule, 0, ifAt[rule], names);
        }

        private int work(int rule, int first, int last, int[] names) {
            int top = 0;
            for (int i = first; i < last; i++) {
                int what = code[rule][i];
                if (what > DO_OR && top < TAPE) {
                    stack[top] = what >= 0 ? what : names[FIRST_NAME - what];
                    top++;
                } else if (what == DO_NOT && top > 0) {
                    stack[top - 1] = stack[top - 1] == 0 ? 1 : 0;
                } else if (what == DO_NEGATE && top > 0) {
                    stack[top - 1] = -stack[top - 1];
                } else if (top > 1) {
                    top--;
                    stack[top - 1] = pair(what, stack[top - 1], stack[top]);
                }
            }
            return top > 0 ? stack[top - 1] : 0;
        }

        private static int pair(int what, int a, int b) {
            switch (what) {
                case DO_OR: return a != 0 || b != 0 ? 1 : 0;
                case DO_AND: return a != 0 && b != 0 ? 1 : 0;
                case DO_LIKE: return a == b ? 1 : 0;
                case DO_LESS: return a < b ? 1 : 0;
                case DO_MORE: return a > b ? 1 : 0;
                case DO_PLUS: return a + b;
                case DO_MINUS: return a - b;
                case DO_TIMES: return a * b;
                case DO_BY: return b == 0 ? 0 : a / b;
                case DO_REST: return b == 0 ? 0 : a % b;
                default: return 0;
            }
        }

        void become(Rules other) {
            size = other.size;
            System.arraycopy(other.key, 0, key, 0, size);
            System.arraycopy(other.from, 0, from, 0, size);
            System.arraycopy(other.to, 0, to, 0, size);
            System.arraycopy(other.ifAt, 0, ifAt, 0, size);
            System.arraycopy(other.end, 0, end, 0, size);
            for (int i = 0; i < size; i++) {
                System.arraycopy(other.code[i], 0, code[i], 0, end[i]);
            }
        }
    }

    /** The tape, and the reading of a rule from it, up to its first fault. */
    private static final class Reader {
        // The keys, the names, then the words between them; each with a blank behind it.
        private static final String WORDS =
            "bond limit rate reserve div dormant work street saved owed joined late kind sum week cash if or and not ";
        private static final int FIRST_NAME_WORD = 6;
        private static final int WORD_IF = 16;
        private static final int WORD_OR = 17;
        private static final int WORD_AND = 18;
        private static final int WORD_NOT = 19;

        // What a token is; a sign is its own byte, which is above these.
        private static final int AT_END = 0;
        private static final int BAD = 1;
        private static final int A_NUMBER = 2;
        private static final int A_KEY = 3;
        private static final int A_NAME = 4;
        private static final int IF = 5;
        private static final int OR = 6;
        private static final int AND = 7;
        private static final int NOT = 8;

        final int[] tape = new int[TAPE];
        int size = 0;
        int next = 0;
        int token = AT_END;
        int start = 0;
        int value = 0;
        final int[] code = new int[TAPE];
        int length = 0;
        int key = 0;
        int ifAt = 0;
        int fault = NONE;

        int append(int bytes, int n) {
            for (int i = n - 1; i >= 0 && size < TAPE; i--) {
                tape[size] = bytes >> 8 * i & 255;
                size++;
            }
            return size;
        }

        boolean readRule() {
            next = 0;
            length = 0;
            fault = NONE;
            step();
            if (token != A_KEY) {
                return faulty();
            }
            key = value;
            step();
            if (!either(0)) {
                return false;
            }
            ifAt = length;
            if (token == IF) {
                step();
                if (!either(0)) {
                    return false;
                }
            }
            return token == AT_END || faulty();
        }

        private boolean either(int open) {
            boolean well = both(open);
            for (int i = 0; i < TAPE && well && token == OR; i++) {
                step();
                well = both(open) && emit(DO_OR);
            }
            return well;
        }

        private boolean both(int open) {
            boolean well = denied(open);
            for (int i = 0; i < TAPE && well && token == AND; i++) {
                step();
                well = denied(open) && emit(DO_AND);
            }
            return well;
        }

        private boolean denied(int open) {
            if (token != NOT) {
                return compared(open);
            }
            if (open >= MOST_OPEN) {
                return faulty();
            }
            step();
            return denied(open + 1) && emit(DO_NOT);
        }

        private boolean compared(int open) {
            if (!summed(open)) {
                return false;
            }
            int sign = token;
            if (sign != '=' && sign != '<' && sign != '>') {
                return true;
            }
            step();
            return summed(open) && emit(sign == '=' ? DO_LIKE : sign == '<' ? DO_LESS : DO_MORE);
        }

        private boolean summed(int open) {
            boolean well = multiplied(open);
            for (int i = 0; i < TAPE && well && (token == '+' || token == '-'); i++) {
                int sign = token;
                step();
                well = multiplied(open) && emit(sign == '+' ? DO_PLUS : DO_MINUS);
            }
            return well;
        }

        private boolean multiplied(int open) {
            boolean well = single(open);
            for (int i = 0; i < TAPE && well && (token == '*' || token == '/' || token == '%'); i++) {
                int sign = token;
                step();
                well = single(open) && emit(sign == '*' ? DO_TIMES : sign == '/' ? DO_BY : DO_REST);
            }
            return well;
        }

        private boolean single(int open) {
            if (token == A_NUMBER || token == A_NAME) {
                emit(token == A_NUMBER ? value : FIRST_NAME - value);
                step();
                return true;
            }
            if (token != '-' && token != '(' || open >= MOST_OPEN) {
                return faulty();
            }
            boolean negated = token == '-';
            step();
            if (negated) {
                return single(open + 1) && emit(DO_NEGATE);
            }
            if (!either(open + 1)) {
                return false;
            }
            if (token != ')') {
                return faulty();
            }
            step();
            return true;
        }

        private boolean emit(int what) {
            if (length < TAPE) {
                code[length] = what;
                length++;
            }
            return true;
        }

        private boolean faulty() {
            fault = start;
            return false;
        }

        private void step() {
            while (next < size && tape[next] == ' ') {
                next++;
            }
            start = next;
            if (next >= size) {
                token = AT_END;
            } else if (isDigit(tape[next])) {
                number();
            } else if (isLetter(tape[next])) {
                word();
            } else {
                token = isSign(tape[next]) ? tape[next] : BAD;
                next++;
            }
        }

        private void number() {
            value = 0;
            while (next < size && isDigit(tape[next])) {
                // A number that is too long is a fault; its value is of no use and must not wrap.
                if (next - start < MOST_DIGITS) {
                    value = value * 10 + tape[next] - '0';
                }
                next++;
            }
            token = next - start > MOST_DIGITS ? BAD : A_NUMBER;
        }

        private void word() {
            while (next < size && isLetter(tape[next])) {
                next++;
            }
            int which = wordNumber();
            value = which < FIRST_NAME_WORD ? which : which - FIRST_NAME_WORD;
            switch (which) {
                case NONE: token = BAD; break;
                case WORD_IF: token = IF; break;
                case WORD_OR: token = OR; break;
                case WORD_AND: token = AND; break;
                case WORD_NOT: token = NOT; break;
                default: token = which < FIRST_NAME_WORD ? A_KEY : A_NAME;
            }
        }

        /** The number among WORDS of the letters from start to next, or NONE. */
        private int wordNumber() {
            int which = 0;
            int at = start;
            boolean like = true;
            for (int i = 0; i < WORDS.length(); i++) {
                char letter = WORDS.charAt(i);
                if (letter == ' ') {
                    if (like && at == next) {
                        return which;
                    }
                    which++;
                    at = start;
                    like = true;
                } else if (at < next && tape[at] == letter) {
                    at++;
                } else {
                    like = false;
                }
            }
            return NONE;
        }

        private static boolean isDigit(int sign) {
            return sign >= '0' && sign <= '9';
        }

        private static boolean isLetter(int sign) {
            return sign >= 'a' && sign <= 'z';
        }

        private static boolean isSign(int sign) {
            switch (sign) {
                case '(': case ')': case '+': case '-': case '*':
                case '/': case '%': case '=': case '<': case '>':
                    return true;
                default:
                    return false;
            }
        }
    }

    /** The closed years, and what runs up in the one that isn't closed. */
    private static final class Years {
        int closed = 0;
        final long[][] sums = new long[YEARS][YEAR_SUMS];
        final long[][] dividend = new long[YEARS][MEMBERS];
        final long[][] rebate = new long[YEARS][MEMBERS];
        final long[][] shares = new long[YEARS][MEMBERS];
        final long[][] earned = new long[YEARS][MEMBERS];
        final long[] runningShares = new long[MEMBERS];
        long runningLost = 0;

        long gotBy(int year, int member) {
            return dividend[year][member] + rebate[year][member];
        }

        void become(Years other) {
            closed = other.closed;
            for (int i = 0; i < YEARS; i++) {
                System.arraycopy(other.sums[i], 0, sums[i], 0, YEAR_SUMS);
                System.arraycopy(other.dividend[i], 0, dividend[i], 0, MEMBERS);
                System.arraycopy(other.rebate[i], 0, rebate[i], 0, MEMBERS);
                System.arraycopy(other.shares[i], 0, shares[i], 0, MEMBERS);
                System.arraycopy(other.earned[i], 0, earned[i], 0, MEMBERS);
            }
            System.arraycopy(other.runningShares, 0, runningShares, 0, MEMBERS);
            runningLost = other.runningLost;
        }
    }

    /** Who had the till in which week, how it was counted, and the books that members brought. */
    private static final class Till {
        final int[] onDuty = new int[LAST_WEEK + 1];
        int counts = 0;
        final int[] countWeek = new int[COUNTS];
        final int[] shortBy = new int[COUNTS];
        int books = 0;
        final int[] bookMember = new int[BOOKS];
        final int[] bookWeek = new int[BOOKS];
        final int[] bookMuch = new int[BOOKS];

        Till() {
            Arrays.fill(onDuty, NONE);
        }

        int addCount(int week, int lacking) {
            countWeek[counts] = week;
            shortBy[counts] = lacking;
            counts++;
            return lacking;
        }

        int addBook(int member, int week, int much) {
            bookMember[books] = member;
            bookWeek[books] = week;
            bookMuch[books] = much;
            books++;
            return books;
        }

        int suspected() {
            int first = 0;
            for (int i = 0; i < counts; i++) {
                // All ahead of the one that is sought are short by 0, as what is ahead of the first.
                if (shortBy[i] != 0) {
                    return onDutyFrom(first, countWeek[i]);
                }
                first = countWeek[i] + 1;
            }
            return NONE;
        }

        private int onDutyFrom(int first, int last) {
            int bits = 0;
            for (int week = first; week <= last; week++) {
                if (onDuty[week] != NONE) {
                    bits |= 1 << onDuty[week];
                }
            }
            return bits;
        }

        void become(Till other) {
            System.arraycopy(other.onDuty, 0, onDuty, 0, LAST_WEEK + 1);
            counts = other.counts;
            System.arraycopy(other.countWeek, 0, countWeek, 0, counts);
            System.arraycopy(other.shortBy, 0, shortBy, 0, counts);
            books = other.books;
            System.arraycopy(other.bookMember, 0, bookMember, 0, books);
            System.arraycopy(other.bookWeek, 0, bookWeek, 0, books);
            System.arraycopy(other.bookMuch, 0, bookMuch, 0, books);
        }
    }

    /** What the rules say of members and asks, and what an ask is answered by it. */
    private static final class Lender {
        final State state;
        // The names of the one that is spoken of; see the know methods.
        final int[] names = new int[NAMES];

        Lender(State state) {
            this.state = state;
        }

        void knowNone() {
            Arrays.fill(names, 0);
            names[OF_WEEK] = state.week;
            names[OF_CASH] = state.ledger.cash;
        }

        void knowMember(int member) {
            knowNone();
            if (member == NONE) {
                return;
            }
            names[OF_WORK] = state.work[member];
            names[OF_STREET] = state.street[member];
            names[OF_SAVED] = state.ledger.total[member];
            names[OF_OWED] = state.loans.owedOf(member);
            names[OF_JOINED] = state.joined[member];
            names[OF_LATE] = state.loans.lateOf(member, state.week - 1);
        }

        void knowAsk(int ask) {
            knowMember(state.asks.member[ask]);
            names[OF_KIND] = state.asks.kind[ask];
            names[OF_SUM] = state.asks.sum[ask];
        }

        int ruleTelling(int key) {
            return state.rules.ruleFor(key, state.week, names);
        }

        int told(int key) {
            int rule = state.rules.ruleFor(key, state.week, names);
            return rule == NONE ? OTHERWISE[key] : state.rules.valueOf(rule, names);
        }

        static int hundredths(int n) {
            return Math.max(0, Math.min(100, n));
        }

        int limitOf(int ask) {
            knowAsk(ask);
            return limitBy(ask, told(LIMIT));
        }

        private int limitBy(int ask, int limit) {
            int kind = state.asks.kind[ask];
            if (Asks.isOf(kind, SECURED)) {
                int member = state.asks.member[ask];
                int free = state.ledger.total[member] - state.loans.heldOf(member);
                return kind == OLD ? free / 2 : free;
            }
            switch (kind) {
                case SMALL: return limit / 4;
                case BACKED: return 2 * limit;
                case BRIDGE: return 2 * limit + 100;
                default: return limit;
            }
        }

        int interestOf(int ask) {
            knowAsk(ask);
            int usual = state.asks.sum[ask] * hundredths(told(RATE)) * state.asks.weeks[ask] / WHOLE;
            switch (state.asks.kind[ask]) {
                case SMALL: return usual + 1;
                case SECURED: case OLD: return usual / 2;
                case BRIDGE: return 2 * usual;
                default: return usual;
            }
        }

        int answerNow(int ask) {
            int member = state.asks.member[ask];
            int sum = state.asks.sum[ask];
            knowAsk(ask);
            if (state.death[member] != NONE || told(BOND) == 0) {
                return BARRED;
            }
            if (sum > limitBy(ask, told(LIMIT))) {
                return TOO_MUCH;
            }
            if (names[OF_LATE] > 0 || state.loans.hasFailed(member)) {
                return IN_ARREARS;
            }
            if (Asks.isOf(state.asks.kind[ask], BACKED) && !isBacked(ask)) {
                return UNBACKED;
            }
            return state.ledger.cash < sum ? NO_CASH : GRANTED;
        }

        private boolean isBacked(int ask) {
            Asks asks = state.asks;
            if (asks.pledges(ask) < asks.sum[ask]) {
                return false;
            }
            for (int i = 0; i < asks.backers[ask]; i++) {
                if (state.ledger.total[asks.backer[ask][i]] < asks.pledge[ask][i]) {
                    return false;
                }
            }
            return true;
        }

        void lend(int ask) {
            state.asks.loan[ask] = state.loans.add(state.asks, ask, state.week, interestOf(ask));
            state.ledger.cash -= state.asks.sum[ask];
        }

        boolean isDormant(int member) {
            if (state.death[member] != NONE) {
                return false;
            }
            knowMember(member);
            int after = told(DORMANT);
            return after > 0 && state.week - state.acted[member] >= after;
        }

        int dormantOnes() {
            int all = 0;
            for (int i = 0; i < state.members; i++) {
                if (isDormant(i)) {
                    all++;
                }
            }
            return all;
        }
    }

    /** Closes weeks and years, and parts what they bring. */
    private static final class Closer {
        final State state;
        final Lender lender;
        final long[] parts = new long[MEMBERS];
        final long[] parted = new long[MEMBERS];
        final long[] rests = new long[MEMBERS];

        Closer(State state, Lender lender) {
            this.state = state;
            this.lender = lender;
        }

        /** A loan fails on its member and its backers: what is lost. */
        static int fail(Asks asks, Loans loans, Ledger ledger, int loan, int week) {
            int lacking = loans.owedBy(loan);
            int ask = loans.ask[loan];
            loans.state[loan] = FAILED;
            int own = take(ledger, loans.member[loan], lacking, week);
            lacking -= own;
            loans.fromMember[loan] = own;
            int others = 0;
            for (int i = 0; i < asks.backers[ask]; i++) {
                int most = Math.min(lacking, asks.pledge[ask][i]);
                int part = take(ledger, asks.backer[ask][i], most, week);
                lacking -= part;
                others += part;
            }
            loans.fromBackers[loan] = others;
            loans.lost[loan] = lacking;
            return lacking;
        }

        private static int take(Ledger ledger, int member, int most, int week) {
            int part = Math.max(0, Math.min(most, ledger.total[member]));
            if (part > 0) {
                ledger.enter(member, week, week, -part);
            }
            return part;
        }

        /** The open week closes: how many loans failed. */
        int closeWeek() {
            int failed = closeLoans();
            for (int i = 0; i < state.members; i++) {
                state.years.runningShares[i] += Math.max(0, state.ledger.total[i]);
            }
            boolean yearToo = state.week % YEAR_WEEKS == YEAR_WEEKS - 1 && state.years.closed < YEARS;
            if (yearToo) {
                closeYear();
            }
            state.week++;
            if (yearToo) {
                handOut(state.years.closed - 1);
            }
            return failed;
        }

        private int closeLoans() {
            Loans loans = state.loans;
            int failed = 0;
            for (int i = 0; i < loans.size; i++) {
                if (loans.state[i] == OPEN) {
                    loans.lateWeeks[i] = loans.isLate(i, state.week) ? loans.lateWeeks[i] + 1 : 0;
                    if (loans.lateWeeks[i] >= FAILING_WEEKS) {
                        state.years.runningLost += fail(state.asks, loans, state.ledger, i, state.week);
                        failed++;
                    }
                }
            }
            return failed;
        }

        private void closeYear() {
            Years years = state.years;
            int year = years.closed;
            // The rows of a year that isn't closed are all 0, also behind an undo.
            long[] sums = years.sums[year];
            System.arraycopy(years.runningShares, 0, years.shares[year], 0, MEMBERS);
            sums[EARNED] = earn(years.earned[year]);
            sums[LOST] = years.runningLost;
            sums[SURPLUS] = sums[EARNED] - sums[LOST];
            if (sums[SURPLUS] > 0) {
                partSurplus(year);
            } else {
                state.ledger.reserve += sums[SURPLUS];
            }
            Arrays.fill(years.runningShares, 0);
            years.runningLost = 0;
            years.closed++;
        }

        /** What the loans earned since the last year closed, by members and in all. */
        private long earn(long[] byMember) {
            Loans loans = state.loans;
            long all = 0;
            for (int i = 0; i < loans.size; i++) {
                long whole = (long) loans.sum[i] + loans.interest[i];
                if (whole > 0) {
                    long part = (long) loans.paid[i] * loans.interest[i] / whole - loans.earned[i];
                    loans.earned[i] += part;
                    byMember[loans.member[i]] += part;
                    all += part;
                }
            }
            return all;
        }

        private void partSurplus(int year) {
            Years years = state.years;
            long[] sums = years.sums[year];
            lender.knowNone();
            sums[TO_RESERVE] = sums[SURPLUS] * Lender.hundredths(lender.told(RESERVE)) / 100;
            long left = sums[SURPLUS] - sums[TO_RESERVE];
            sums[DIVIDEND] = left * Lender.hundredths(lender.told(DIV)) / 100;
            sums[REBATE] = left - sums[DIVIDEND];
            state.ledger.reserve += sums[TO_RESERVE];
            if (!part(sums[DIVIDEND], years.shares[year], years.dividend[year])) {
                state.ledger.reserve += sums[DIVIDEND];
            }
            if (!part(sums[REBATE], years.earned[year], years.rebate[year])) {
                state.ledger.reserve += sums[REBATE];
            }
        }

        /** Parts a sum by the parts of members, into another row; false if there is no part. */
        private boolean part(long sum, long[] by, long[] into) {
            long all = 0;
            for (int i = 0; i < MEMBERS; i++) {
                all += by[i];
            }
            Arrays.fill(into, 0);
            if (all <= 0) {
                return false;
            }
            long left = sum;
            for (int i = 0; i < MEMBERS; i++) {
                into[i] = sum * by[i] / all;
                rests[i] = sum * by[i] % all;
                left -= into[i];
            }
            for (int i = 0; i < MEMBERS && left > 0; i++) {
                int most = greatestRest();
                into[most]++;
                rests[most] = -1;
                left--;
            }
            return true;
        }

        private int greatestRest() {
            int most = 0;
            for (int i = 1; i < MEMBERS; i++) {
                if (rests[i] > rests[most]) {
                    most = i;
                }
            }
            return most;
        }

        private void handOut(int year) {
            for (int i = 0; i < state.members; i++) {
                int sum = (int) state.years.gotBy(year, i);
                if (sum != 0) {
                    state.ledger.enter(i, state.week, state.week, sum);
                }
            }
        }

        /** The dividend of a member, had the year been closed with what is known now. */
        long reworked(int year, int member) {
            for (int i = 0; i < MEMBERS; i++) {
                parts[i] = state.ledger.shareWeeks(i, year * YEAR_WEEKS);
            }
            part(state.years.sums[year][DIVIDEND], parts, parted);
            return parted[member];
        }

        boolean mayVoid(int year) {
            if (state.years.sums[year][VOID] != 0) {
                return false;
            }
            for (int i = 0; i < state.members; i++) {
                if (state.ledger.total[i] < state.years.gotBy(year, i)) {
                    return false;
                }
            }
            return true;
        }

        /** A year's parting is void: what was taken in all. */
        int takeBack(int year) {
            int all = 0;
            for (int i = 0; i < state.members; i++) {
                int sum = (int) state.years.gotBy(year, i);
                if (sum != 0) {
                    state.ledger.enter(i, state.week, state.week, -sum);
                    all += sum;
                }
            }
            state.ledger.reserve += all;
            state.years.sums[year][VOID] = 1;
            return all;
        }
    }

    /** What would be: sets of asks in runs on the cash, and members that fall. */
    private static final class Planner {
        final State state;
        final Lender lender;
        // What the open loans bring in each week to come, and what each chosen ask would.
        final int[] comes = new int[RUN_WEEKS];
        final int[][] brings = new int[ASKS][RUN_WEEKS];
        final Ledger trialLedger = new Ledger();
        final Loans trialLoans = new Loans();
        int fallen = 0;
        int fallLost = 0;
        int rounds = 0;

        Planner(State state, Lender lender) {
            this.state = state;
            this.lender = lender;
        }

        boolean mayJoin(int ask) {
            if (state.asks.given[ask] != NONE) {
                return false;
            }
            int would = lender.answerNow(ask);
            return would == GRANTED || would == NO_CASH;
        }

        boolean lasts(int set) {
            foresee(set);
            return foreseenLasts(set);
        }

        int bestOf(int asks) {
            int free = 0;
            for (int i = 0; i < state.asks.size; i++) {
                if ((asks >> i & 1) != 0 && mayJoin(i)) {
                    free |= 1 << i;
                }
            }
            foresee(free);
            int best = 0;
            int set = free;
            // Every part of the told asks but the empty one, which is the answer if none lasts.
            for (int i = 0; i < 1 << MOST_CHOSEN && set != 0; i++) {
                if (isBetter(set, best) && foreseenLasts(set)) {
                    best = set;
                }
                set = set - 1 & free;
            }
            return best;
        }

        private boolean isBetter(int set, int other) {
            int asks = Integer.bitCount(set) - Integer.bitCount(other);
            if (asks != 0) {
                return asks > 0;
            }
            int sums = sumOf(set) - sumOf(other);
            if (sums != 0) {
                return sums > 0;
            }
            int differ = set ^ other;
            return (set & differ & -differ) != 0;
        }

        private int sumOf(int set) {
            int all = 0;
            for (int i = 0; i < ASKS; i++) {
                if ((set >> i & 1) != 0) {
                    all += state.asks.sum[i];
                }
            }
            return all;
        }

        private void foresee(int set) {
            for (int k = 0; k < RUN_WEEKS; k++) {
                comes[k] = state.loans.dueOfAll(state.week + k);
            }
            for (int i = 0; i < state.asks.size; i++) {
                if ((set >> i & 1) != 0) {
                    foreseeAsk(i, lender.interestOf(i));
                }
            }
        }

        private void foreseeAsk(int ask, int interest) {
            int weeks = state.asks.weeks[ask];
            int all = state.asks.sum[ask] + interest;
            int usual = Loans.usualDue(state.asks.kind[ask], state.asks.sum[ask], interest, weeks);
            brings[ask][0] = 0;
            for (int k = 1; k < RUN_WEEKS; k++) {
                brings[ask][k] = k < weeks ? usual : k == weeks ? all - usual * (weeks - 1) : 0;
            }
        }

        private boolean foreseenLasts(int set) {
            int cash = state.ledger.cash - sumOf(set);
            if (cash < 0) {
                return false;
            }
            for (int i = 0; i < RUNS; i++) {
                if (state.told[i] != 0 && !lastsThrough(set, cash, state.drawn[i])) {
                    return false;
                }
            }
            return true;
        }

        private boolean lastsThrough(int set, int cash, int[] drawn) {
            int left = cash;
            for (int k = 0; k < RUN_WEEKS; k++) {
                left += comes[k] - drawn[k];
                for (int i = 0; i < ASKS; i++) {
                    if ((set >> i & 1) != 0) {
                        left += brings[i][k];
                    }
                }
                if (left < 0) {
                    return false;
                }
            }
            return true;
        }

        /** A member falls, on rows of its own: who falls with it, what is lost, in how many rounds. */
        void fell(int member) {
            trialLedger.become(state.ledger);
            trialLoans.become(state.loans);
            fallen = 0;
            fallLost = 0;
            rounds = 0;
            int falling = 1 << member;
            for (int i = 0; i < MEMBERS && falling != 0; i++) {
                fallen |= falling;
                rounds++;
                failAll(falling);
                falling = wanting() & ~fallen;
            }
        }

        private void failAll(int members) {
            for (int m = 0; m < MEMBERS; m++) {
                for (int i = 0; i < trialLoans.size && (members >> m & 1) != 0; i++) {
                    if (trialLoans.member[i] == m && trialLoans.state[i] == OPEN) {
                        fallLost += Closer.fail(state.asks, trialLoans, trialLedger, i, state.week);
                    }
                }
            }
        }

        private int wanting() {
            int bits = 0;
            for (int m = 0; m < state.members; m++) {
                if (trialLedger.total[m] < trialLoans.heldOf(m)) {
                    bits |= 1 << m;
                }
            }
            return bits;
        }
    }
}
