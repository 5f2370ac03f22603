import java.util.ArrayList;
import java.util.Arrays;
import java.util.List;
import java.util.TreeMap;
import java.util.function.Consumer;

/**
 * The document said a second time, as literally as it goes and without any thought of speed: all is worked out
 * anew from lists at each call, and an image is a place in the list of what was done, from which all is done again.
 * It shares no code with the class and is there to be compared with it.
 */
final class Model {
    static final class Refusal extends RuntimeException {
        final int by;

        Refusal(int by) {
            super(null, null, false, false);
            this.by = by;
        }
    }

    private Core core = new Core();
    private final List<Consumer<Core>> log = new ArrayList<>();
    private int imaged = -1;
    private final StringBuilder tape = new StringBuilder();
    private int[] row = null;
    private final int[] refused = new int[9];

    // The calls by their names; args as they stand in the document.
    long call(String name, int[] a) {
        try {
            return doCall(name, a);
        } catch (Refusal r) {
            refused[-r.by]++;
            return tellsZero(name) ? 0 : r.by;
        }
    }

    private static boolean tellsZero(String name) {
        return Arrays.asList("died", "saved", "look", "askOf", "dues", "says", "year", "got", "runs", "counted",
            "count", "set", "row").contains(name);
    }

    private static void need(boolean so, int otherwise) {
        if (!so) {
            throw new Refusal(otherwise);
        }
    }

    private long did(Consumer<Core> what) {
        what.accept(core);
        log.add(what);
        return core.told;
    }

    private long doCall(String name, int[] a) {
        switch (name) {
            case "member": return did(c -> c.told = c.member(a[0], a[1]));
            case "died": return did(c -> c.told = c.died(a[0], a[1]));
            case "save": return did(c -> c.told = c.save(a[0], a[1]));
            case "draw": return did(c -> c.told = c.draw(a[0], a[1]));
            case "found": return did(c -> c.told = c.found(a[0], a[1], a[2]));
            case "ask": return did(c -> c.told = c.ask(a[0], a[1], a[2]));
            case "back": return did(c -> c.told = c.back(a[0], a[1], a[2]));
            case "answer": return did(c -> c.told = c.answer(a[0]));
            case "pay": return did(c -> c.told = c.pay(a[0], a[1]));
            case "run": return did(c -> c.told = c.run(a[0]));
            case "cost": return did(c -> c.told = c.cost(a[0]));
            case "voided": return did(c -> c.told = c.voided());
            case "runs": return did(c -> c.told = c.runs(a[0], a[1], a[2]));
            case "calm": return did(c -> c.told = c.calm(a[0]));
            case "duty": return did(c -> c.told = c.duty(a[0]));
            case "counted": return did(c -> c.told = c.counted(a[0]));
            case "book": return did(c -> c.told = c.book(a[0], a[1], a[2]));
            case "saved": return core.savedAsked(a[0], a[1], a[2]);
            case "look": return core.look(a[0], a[1]);
            case "askOf": return core.askOf(a[0], a[1]);
            case "loanOf": return core.loanOf(a[0], a[1]);
            case "dues": return core.dues(a[0], a[1]);
            case "taken": return core.taken(a[0], a[1]);
            case "alike": return core.alike(a[0], a[1]);
            case "says": return core.says(a[0], a[1], false);
            case "why": return core.says(a[0], a[1], true);
            case "year": return core.year(a[0], a[1]);
            case "got": return core.got(a[0], a[1], a[2]);
            case "best": return core.best(a[0]);
            case "fall": return core.fall(a[0], a[1]);
            case "suspects": return core.suspects();
            case "wrong": return core.wrong();
            case "count": return a[0] == 9 ? tape.length() : core.count(a[0]);
            default: return own(name, a);
        }
    }

    private long own(String name, int[] a) {
        switch (name) {
            case "feed":
                need(a[1] >= 0, -4);
                need(a[1] <= 4, -7);
                need(tape.length() + a[1] <= 120, -8);
                for (int i = 4 - a[1]; i < 4; i++) {
                    tape.append((char) java.nio.ByteBuffer.allocate(4).putInt(a[0]).array()[i]);
                    tape.setCharAt(tape.length() - 1, (char) (tape.charAt(tape.length() - 1) % 256));
                }
                return tape.length();
            case "wipe":
                int had = tape.length();
                tape.setLength(0);
                return had;
            case "rule":
                need(a[0] >= 0 && a[1] <= 1000 && a[0] < a[1], -7);
                need(core.rules.size() < 12, -8);
                try {
                    String text = tape.toString();
                    ModelRule read = ModelRule.read(text);
                    long number = did(c -> c.told = c.rule(read, a[0], a[1]));
                    tape.setLength(0);
                    return number;
                } catch (ModelRule.Fault f) {
                    return -10 - f.place;
                }
            case "image":
                imaged = log.size();
                return core.week;
            case "undo":
                need(imaged >= 0, -2);
                while (log.size() > imaged) {
                    log.remove(log.size() - 1);
                }
                core = new Core();
                for (Consumer<Core> what : log) {
                    what.accept(core);
                }
                return core.week;
            default: return rows(name, a);
        }
    }

    private long rows(String name, int[] a) {
        switch (name) {
            case "lay":
                need(a[0] >= 0, -4);
                need(a[0] <= 12, -7);
                row = new int[a[0]];
                return a[0];
            case "set":
                need(row != null, -2);
                need(a[0] >= 0 && a[0] < row.length, -3);
                int old = row[a[0]];
                row[a[0]] = a[1];
                return old;
            case "tear":
                boolean there = row != null;
                row = null;
                return there ? 1 : 0;
            case "row":
                need(row != null, -2);
                need(a[0] >= 0 && a[0] < row.length, -3);
                return row[a[0]];
            case "copy":
                need(row != null, -2);
                need(a[2] >= 0, -4);
                need(a[0] >= 0 && a[1] >= 0, -6);
                need((long) a[0] + a[2] <= row.length && (long) a[1] + a[2] <= row.length, -6);
                int[] were = row.clone();
                for (int i = 0; i < a[2]; i++) {
                    row[a[1] + i] = were[a[0] + i];
                }
                return a[2];
            case "judge":
                need(row != null, -2);
                return core.judge(row);
            case "status":
                need(a[0] >= -8 && a[0] <= -2, -7);
                return refused[-a[0]];
            default: throw new IllegalStateException(name);
        }
    }

    private static final class Member {
        int work, street, joined, died = -1, act;
    }

    private static final class Entry {
        int member, week, told, much;
    }

    private static final class Ask {
        int member, kind, sum, weeks, answer = -1, loan = -1;
        List<int[]> backers = new ArrayList<>();
    }

    private static final class Loan implements Cloneable {
        int ask, week, interest, paid, late, state, fromMember, fromBackers, lost;
        long earned;

        Loan twin() {
            try {
                return (Loan) clone();
            } catch (CloneNotSupportedException e) {
                throw new IllegalStateException(e);
            }
        }
    }

    private static final class Rule {
        ModelRule read;
        int from, to;
    }

    private static final class Year {
        long[] sums = new long[7];
        long[][] got = new long[4][16];
    }

    private static final class Core {
        long told;
        int week = 0;
        List<Member> members = new ArrayList<>();
        List<Entry> entries = new ArrayList<>();
        long cash = 0;
        long reserve = 0;
        List<Ask> asks = new ArrayList<>();
        List<Loan> loans = new ArrayList<>();
        List<Rule> rules = new ArrayList<>();
        List<Year> years = new ArrayList<>();
        // SAVED of each member as each week closed, behind (1).
        List<long[]> savedAtClose = new ArrayList<>();
        long lostInYear = 0;
        int[][] runs = new int[4][8];
        boolean[] runTold = new boolean[4];
        TreeMap<Integer, Integer> duty = new TreeMap<>();
        List<int[]> counted = new ArrayList<>();
        List<int[]> books = new ArrayList<>();

        boolean isMember(int m) {
            return m >= 0 && m < members.size();
        }

        boolean isAsk(int a) {
            return a >= 0 && a < asks.size();
        }

        boolean isLoan(int l) {
            return l >= 0 && l < loans.size();
        }

        boolean within(int n, int low, int high) {
            return low <= n && n <= high;
        }

        // ---- members, savings

        int member(int work, int street) {
            need(within(work, 0, 9) && within(street, 0, 9), -7);
            need(members.size() < 16, -8);
            Member m = new Member();
            m.work = work;
            m.street = street;
            m.joined = week;
            m.act = week;
            members.add(m);
            return members.size() - 1;
        }

        int died(int m, int w) {
            need(isMember(m), -3);
            need(w <= week && w >= members.get(m).joined, -7);
            int before = members.get(m).died;
            members.get(m).died = w;
            return before;
        }

        Entry same(int m, int w, int t) {
            for (Entry e : entries) {
                if (e.member == m && e.week == w && e.told == t) {
                    return e;
                }
            }
            return null;
        }

        void enter(int m, int w, int much) {
            Entry e = same(m, w, week);
            if (e == null) {
                e = new Entry();
                e.member = m;
                e.week = w;
                e.told = week;
                entries.add(e);
            }
            e.much += much;
        }

        int saved(int m, int w, int as) {
            int sum = 0;
            for (Entry e : entries) {
                if (e.member == m && e.week <= w && e.told <= as) {
                    sum += e.much;
                }
            }
            return sum;
        }

        int saved(int m) {
            return saved(m, 1000000, 1000000);
        }

        int save(int m, int n) {
            need(isMember(m), -3);
            need(within(n, 1, 99999) && members.get(m).died == -1, -7);
            need(entries.size() < 300 || same(m, week, week) != null, -8);
            enter(m, week, n);
            cash += n;
            members.get(m).act = week;
            return saved(m);
        }

        int draw(int m, int n) {
            need(isMember(m), -3);
            need(within(n, 1, 99999) && n <= saved(m) - held(m), -7);
            need(n <= cash, -2);
            need(entries.size() < 300 || same(m, week, week) != null, -8);
            enter(m, week, -n);
            cash -= n;
            members.get(m).act = week;
            return saved(m);
        }

        int found(int m, int w, int n) {
            need(isMember(m) && within(w, 0, week - 1), -3);
            need(within(n, -99999, 99999) && n != 0, -7);
            need(cash + n >= 0, -2);
            need(entries.size() < 300 || same(m, w, week) != null, -8);
            enter(m, w, n);
            cash += n;
            return saved(m);
        }

        int savedAsked(int m, int w, int as) {
            need(isMember(m) && within(w, 0, week) && within(as, 0, week), -3);
            return saved(m, w, as);
        }

        int held(int m) {
            int all = 0;
            for (Loan l : loans) {
                int kind = asks.get(l.ask).kind;
                if (asks.get(l.ask).member == m && l.state == 0 && (kind == 2 || kind == 5)) {
                    all += owed(l);
                }
            }
            return all;
        }

        int owedOf(int m) {
            int all = 0;
            for (Loan l : loans) {
                if (asks.get(l.ask).member == m && l.state == 0) {
                    all += owed(l);
                }
            }
            return all;
        }

        int lateOf(int m) {
            int all = 0;
            for (Loan l : loans) {
                if (asks.get(l.ask).member == m && late(l, week - 1)) {
                    all++;
                }
            }
            return all;
        }

        boolean dormant(int m) {
            int d = tell(5, m, -1);
            return members.get(m).died == -1 && d > 0 && week - members.get(m).act >= d;
        }

        int look(int m, int what) {
            need(isMember(m), -3);
            need(within(what, 0, 9), -7);
            Member me = members.get(m);
            int behind = 0;
            for (Entry e : entries) {
                if (e.member == m && me.died != -1 && e.week > me.died) {
                    behind++;
                }
            }
            return new int[] {me.work, me.street, me.joined, me.died, held(m), owedOf(m), lateOf(m),
                dormant(m) ? 1 : 0, me.act, behind}[what];
        }

        // ---- asks, loans

        int ask(int of, int sum, int weeks) {
            need(of >= 0 && isMember(of / 10), -3);
            need(of % 10 <= 5 && within(sum, 1, 99999) && within(weeks, 1, 60), -7);
            need(asks.size() < 24, -8);
            Ask a = new Ask();
            a.member = of / 10;
            a.kind = of % 10;
            a.sum = sum;
            a.weeks = weeks;
            asks.add(a);
            return asks.size() - 1;
        }

        int back(int ask, int m, int pledge) {
            need(isAsk(ask) && isMember(m), -3);
            Ask a = asks.get(ask);
            need(a.member != m && within(pledge, 1, 99999), -7);
            for (int[] b : a.backers) {
                need(b[0] != m, -7);
            }
            need(a.answer == -1, -7);
            need(a.backers.size() < 4, -8);
            a.backers.add(new int[] {m, pledge});
            return a.backers.size();
        }

        int pledges(Ask a) {
            return a.backers.stream().mapToInt(b -> b[1]).sum();
        }

        int limit(int ask) {
            Ask a = asks.get(ask);
            int loan = tell(1, a.member, ask);
            int secured = saved(a.member) - held(a.member);
            int backed = loan * 2;
            return new int[] {loan, loan / 4, secured, backed, backed + 100, secured / 2}[a.kind];
        }

        int interest(int ask) {
            Ask a = asks.get(ask);
            int rate = bounded(tell(2, a.member, ask));
            int loan = (int) ((long) a.sum * rate * a.weeks / 10000);
            return new int[] {loan, loan + 1, loan / 2, loan, 2 * loan, loan / 2}[a.kind];
        }

        int bounded(int n) {
            return n < 0 ? 0 : n > 100 ? 100 : n;
        }

        int answerNow(int ask) {
            Ask a = asks.get(ask);
            if (members.get(a.member).died != -1 || tell(0, a.member, ask) == 0) {
                return 1;
            }
            if (a.sum > limit(ask)) {
                return 2;
            }
            for (Loan l : loans) {
                if (asks.get(l.ask).member == a.member && (late(l, week - 1) || l.state == 2)) {
                    return 3;
                }
            }
            if (a.kind == 3 || a.kind == 4) {
                if (pledges(a) < a.sum) {
                    return 4;
                }
                for (int[] b : a.backers) {
                    if (saved(b[0]) < b[1]) {
                        return 4;
                    }
                }
            }
            return cash < a.sum ? 5 : 0;
        }

        int askOf(int ask, int what) {
            need(isAsk(ask), -3);
            need(within(what, 0, 9), -7);
            Ask a = asks.get(ask);
            return new int[] {a.member, a.kind, a.sum, a.weeks, pledges(a), limit(ask), interest(ask), a.answer,
                a.answer == -1 ? answerNow(ask) : -1, a.loan}[what];
        }

        int answer(int ask) {
            need(isAsk(ask), -3);
            Ask a = asks.get(ask);
            need(a.answer == -1, -7);
            a.answer = answerNow(ask);
            if (a.answer == 0) {
                Loan l = new Loan();
                l.ask = ask;
                l.week = week;
                l.interest = interest(ask);
                a.loan = loans.size();
                loans.add(l);
                cash -= a.sum;
            }
            return a.answer;
        }

        int whole(Loan l) {
            return asks.get(l.ask).sum + l.interest;
        }

        int owed(Loan l) {
            return whole(l) - l.paid;
        }

        // The dues of an ask's loan, the first one at place 1.
        int[] schedule(Ask a, int interest) {
            int[] due = new int[a.weeks + 1];
            int left = a.sum + interest;
            for (int i = 1; i < a.weeks; i++) {
                due[i] = a.kind == 4 ? 0 : a.kind == 5 ? interest / a.weeks : (a.sum + interest) / a.weeks;
                left -= due[i];
            }
            due[a.weeks] = left;
            return due;
        }

        int due(Loan l, int w) {
            int[] all = schedule(asks.get(l.ask), l.interest);
            int place = w - l.week;
            return place >= 1 && place < all.length ? all[place] : 0;
        }

        int dueBy(Loan l, int last) {
            int[] due = schedule(asks.get(l.ask), l.interest);
            int all = 0;
            for (int place = 1; place < due.length && l.week + place <= last; place++) {
                all += due[place];
            }
            return all;
        }

        boolean late(Loan l, int last) {
            return l.state == 0 && l.paid < dueBy(l, last);
        }

        int pay(int loan, int n) {
            need(isLoan(loan), -3);
            Loan l = loans.get(loan);
            need(l.state == 0 && within(n, 1, owed(l)), -7);
            l.paid += n;
            cash += n;
            members.get(asks.get(l.ask).member).act = week;
            if (owed(l) == 0) {
                l.state = 1;
            }
            return owed(l);
        }

        int loanOf(int loan, int what) {
            need(isLoan(loan), -3);
            need(within(what, 0, 10), -7);
            Loan l = loans.get(loan);
            return new int[] {l.ask, l.week, l.interest, l.paid, dueBy(l, week - 1), owed(l), l.late, l.state,
                l.fromMember, l.fromBackers, l.lost}[what];
        }

        int dues(int loan, int w) {
            need(isLoan(loan) && within(w, 0, 1000), -3);
            return due(loans.get(loan), w);
        }

        int taken(int loan, int k) {
            need(isLoan(loan), -3);
            need(within(k, 0, 5), -7);
            String[] above = {"0", "01", "02", "03", "034", "025"};
            Ask a = asks.get(loans.get(loan).ask);
            need(above[a.kind].indexOf('0' + k) >= 0, -5);
            return a.sum;
        }

        int alike(int i, int j) {
            need(isAsk(i) && isAsk(j), -3);
            need(i != j, -7);
            Ask a = asks.get(i);
            Ask b = asks.get(j);
            if (a.answer == -1 || b.answer == -1 || a.kind != b.kind || a.sum != b.sum || a.weeks != b.weeks) {
                return 0;
            }
            return a.answer != b.answer ? 2 : 1;
        }

        // ---- rules

        int rule(ModelRule read, int from, int to) {
            Rule r = new Rule();
            r.read = read;
            r.from = from;
            r.to = to;
            rules.add(r);
            return rules.size() - 1;
        }

        int telling(int key, int m, int ask) {
            int[] names = new int[10];
            if (m >= 0) {
                Member me = members.get(m);
                names = new int[] {me.work, me.street, saved(m), owedOf(m), me.joined, lateOf(m), 0, 0, 0, 0};
            }
            if (ask >= 0) {
                names[6] = asks.get(ask).kind;
                names[7] = asks.get(ask).sum;
            }
            names[8] = week;
            names[9] = (int) cash;
            this.names = names;
            int found = -1;
            for (int i = 0; i < rules.size(); i++) {
                Rule r = rules.get(i);
                if (r.read.key == key && week >= r.from && week < r.to && r.read.condition.value(names) != 0) {
                    found = i;
                }
            }
            return found;
        }

        int[] names = null;

        int tell(int key, int m, int ask) {
            int rule = telling(key, m, ask);
            if (rule < 0) {
                return new int[] {1, 5000, 10, 20, 50, 0}[key];
            }
            return rules.get(rule).read.value.value(names);
        }

        int says(int key, int who, boolean why) {
            boolean is = who == -1 || who < 100 && isMember(who) || who >= 100 && isAsk(who - 100);
            need(within(key, 0, 5) && is, -3);
            int ask = who >= 100 ? who - 100 : -1;
            int m = ask >= 0 ? asks.get(ask).member : who;
            return why ? telling(key, m, ask) : tell(key, m, ask);
        }

        // ---- weeks, years

        int failOne(List<Entry> taken, int ofMember, int most) {
            int has = saved(ofMember);
            for (Entry e : taken) {
                if (e.member == ofMember) {
                    has += e.much;
                }
            }
            int part = Math.min(has, most);
            if (part <= 0) {
                return 0;
            }
            Entry e = new Entry();
            e.member = ofMember;
            e.much = -part;
            taken.add(e);
            return part;
        }

        void fail(Loan l, List<Entry> taken) {
            Ask a = asks.get(l.ask);
            l.state = 2;
            int lack = owed(l);
            l.fromMember = failOne(taken, a.member, lack);
            lack -= l.fromMember;
            for (int[] b : a.backers) {
                int part = failOne(taken, b[0], Math.min(b[1], lack));
                l.fromBackers += part;
                lack -= part;
            }
            l.lost = lack;
        }

        int run(int n) {
            need(n >= 0, -4);
            need(n != 0 && n <= 60, -7);
            need(week + n <= 400, -8);
            int failed = 0;
            for (int i = 0; i < n; i++) {
                failed += close();
            }
            return failed;
        }

        int close() {
            int failed = 0;
            for (Loan l : loans) {
                if (l.state != 0) {
                    continue;
                }
                l.late = late(l, week) ? l.late + 1 : 0;
                if (l.late == 13) {
                    List<Entry> taken = new ArrayList<>();
                    fail(l, taken);
                    for (Entry e : taken) {
                        enter(e.member, week, e.much);
                    }
                    lostInYear += l.lost;
                    failed++;
                }
            }
            long[] at = new long[16];
            for (int m = 0; m < members.size(); m++) {
                at[m] = saved(m, week, week);
            }
            savedAtClose.add(at);
            Year closed = week % 52 == 51 ? closeYear() : null;
            week++;
            if (closed != null) {
                for (int m = 0; m < members.size(); m++) {
                    long got = closed.got[0][m] + closed.got[1][m];
                    if (got != 0) {
                        enter(m, week, (int) got);
                    }
                }
            }
            return failed;
        }

        Year closeYear() {
            Year y = new Year();
            for (Loan l : loans) {
                long now = whole(l) == 0 ? 0 : (long) l.paid * l.interest / whole(l);
                y.got[3][asks.get(l.ask).member] += now - l.earned;
                y.sums[0] += now - l.earned;
                l.earned = now;
            }
            y.sums[1] = lostInYear;
            lostInYear = 0;
            y.sums[2] = y.sums[0] - y.sums[1];
            for (int w = week - 51; w <= week; w++) {
                for (int m = 0; m < 16; m++) {
                    y.got[2][m] += Math.max(0, savedAtClose.get(w)[m]);
                }
            }
            if (y.sums[2] <= 0) {
                reserve += y.sums[2];
            } else {
                y.sums[3] = y.sums[2] * bounded(tell(3, -1, -1)) / 100;
                long left = y.sums[2] - y.sums[3];
                y.sums[4] = left * bounded(tell(4, -1, -1)) / 100;
                y.sums[5] = left - y.sums[4];
                reserve += y.sums[3];
                y.got[0] = parted(y.sums[4], y.got[2]);
                y.got[1] = parted(y.sums[5], y.got[3]);
                reserve += y.sums[4] - Arrays.stream(y.got[0]).sum();
                reserve += y.sums[5] - Arrays.stream(y.got[1]).sum();
            }
            years.add(y);
            return y;
        }

        long[] parted(long sum, long[] parts) {
            long[] into = new long[16];
            long all = Arrays.stream(parts).sum();
            if (all == 0) {
                return into;
            }
            List<long[]> rests = new ArrayList<>();
            long given = 0;
            for (int m = 0; m < 16; m++) {
                java.math.BigInteger[] q = java.math.BigInteger.valueOf(sum)
                    .multiply(java.math.BigInteger.valueOf(parts[m]))
                    .divideAndRemainder(java.math.BigInteger.valueOf(all));
                into[m] = q[0].longValue();
                given += into[m];
                rests.add(new long[] {q[1].longValue(), m});
            }
            rests.sort((a, b) -> a[0] != b[0] ? Long.compare(b[0], a[0]) : Long.compare(a[1], b[1]));
            for (int i = 0; i < sum - given; i++) {
                into[(int) rests.get(i)[1]]++;
            }
            return into;
        }

        int cost(int n) {
            need(within(n, 1, 99999), -7);
            need(cash >= n, -2);
            cash -= n;
            reserve -= n;
            return (int) cash;
        }

        long year(int y, int what) {
            need(within(y, 0, years.size() - 1), -3);
            need(within(what, 0, 6), -7);
            return years.get(y).sums[what];
        }

        long got(int y, int m, int what) {
            need(within(y, 0, years.size() - 1) && isMember(m), -3);
            need(within(what, 0, 5), -7);
            if (what < 4) {
                return years.get(y).got[what][m];
            }
            long[] shares = new long[16];
            for (int i = 0; i < members.size(); i++) {
                for (int w = 52 * y; w < 52 * y + 52; w++) {
                    shares[i] += Math.max(0, saved(i, w, week));
                }
            }
            return what == 4 ? shares[m] : parted(years.get(y).sums[4], shares)[m];
        }

        int voided() {
            need(!years.isEmpty(), -7);
            Year y = years.get(years.size() - 1);
            need(y.sums[6] == 0, -7);
            for (int m = 0; m < members.size(); m++) {
                need(saved(m) >= y.got[0][m] + y.got[1][m], -7);
            }
            int all = 0;
            for (int m = 0; m < members.size(); m++) {
                int got = (int) (y.got[0][m] + y.got[1][m]);
                if (got > 0) {
                    enter(m, week, -got);
                    all += got;
                }
            }
            reserve += all;
            y.sums[6] = 1;
            return all;
        }

        // ---- runs, falls

        int runs(int run, int w, int n) {
            need(within(run, 0, 3) && within(w, 0, 7), -3);
            need(within(n, 0, 99999), -7);
            int before = runs[run][w];
            runs[run][w] = n;
            runTold[run] = true;
            return before;
        }

        int calm(int run) {
            need(within(run, 0, 3), -3);
            boolean before = runTold[run];
            runTold[run] = false;
            runs[run] = new int[8];
            return before ? 1 : 0;
        }

        boolean mayBe(int ask) {
            return asks.get(ask).answer == -1 && (answerNow(ask) == 0 || answerNow(ask) == 5);
        }

        boolean lasts(int set) {
            long left = cash;
            for (int i = 0; i < asks.size(); i++) {
                left -= (set >> i & 1) * asks.get(i).sum;
            }
            if (left < 0) {
                return false;
            }
            for (int r = 0; r < 4; r++) {
                long at = left;
                for (int k = 0; k < 8 && runTold[r]; k++) {
                    for (Loan l : loans) {
                        at += l.state == 0 ? due(l, week + k) : 0;
                    }
                    for (int i = 0; i < asks.size(); i++) {
                        if ((set >> i & 1) != 0 && k > 0 && k <= asks.get(i).weeks) {
                            at += schedule(asks.get(i), interest(i))[k];
                        }
                    }
                    at -= runs[r][k];
                    if (at < 0) {
                        return false;
                    }
                }
            }
            return true;
        }

        int best(int bits) {
            need(bits >= 0 && bits >> asks.size() == 0 && Integer.bitCount(bits) <= 8, -7);
            int best = 0;
            long bestSum = 0;
            List<Integer> may = new ArrayList<>();
            for (int i = 0; i < asks.size(); i++) {
                if ((bits >> i & 1) != 0 && mayBe(i)) {
                    may.add(i);
                }
            }
            for (int n = 1; n < 1 << may.size(); n++) {
                int set = 0;
                long sum = 0;
                for (int i = 0; i < may.size(); i++) {
                    if ((n >> i & 1) != 0) {
                        set |= 1 << may.get(i);
                        sum += asks.get(may.get(i)).sum;
                    }
                }
                int more = Integer.bitCount(set) - Integer.bitCount(best);
                boolean better = more > 0 || more == 0 && sum > bestSum;
                if (more == 0 && sum == bestSum) {
                    // The one that has the least ask that just one of both has.
                    better = (set >> Integer.numberOfTrailingZeros(set ^ best) & 1) != 0;
                }
                if (better && lasts(set)) {
                    best = set;
                    bestSum = sum;
                }
            }
            return best;
        }

        int judge(int[] row) {
            int set = 0;
            for (int ask : row) {
                need(isAsk(ask), -7);
                need((set >> ask & 1) == 0, -7);
                need(mayBe(ask), -7);
                set |= 1 << ask;
            }
            return lasts(set) ? 1 : 0;
        }

        int fall(int member, int what) {
            need(isMember(member), -3);
            need(within(what, 0, 2), -7);
            List<Loan> loansBefore = loans;
            List<Entry> entriesBefore = new ArrayList<>(entries);
            loans = new ArrayList<>();
            for (Loan l : loansBefore) {
                loans.add(l.twin());
            }
            int bits = 0;
            int rounds = 0;
            int lost = 0;
            List<Integer> round = List.of(member);
            while (!round.isEmpty()) {
                rounds++;
                for (int m : round) {
                    bits |= 1 << m;
                    for (Loan l : loans) {
                        if (asks.get(l.ask).member == m && l.state == 0) {
                            List<Entry> taken = new ArrayList<>();
                            fail(l, taken);
                            entries.addAll(taken);
                            lost += l.lost;
                        }
                    }
                }
                round = new ArrayList<>();
                for (int m = 0; m < members.size(); m++) {
                    if ((bits >> m & 1) == 0 && saved(m) < held(m)) {
                        round.add(m);
                    }
                }
            }
            loans = loansBefore;
            entries = entriesBefore;
            return what == 0 ? bits : what == 1 ? lost : rounds;
        }

        // ---- tills, books

        int duty(int m) {
            need(isMember(m), -3);
            Integer before = duty.put(week, m);
            return before == null ? -1 : before;
        }

        int counted(int n) {
            need(within(n, 0, 9999999), -7);
            need(counted.size() < 20, -8);
            counted.add(new int[] {week, (int) (cash - n)});
            return (int) (cash - n);
        }

        int suspects() {
            for (int i = 0; i < counted.size(); i++) {
                int ahead = i == 0 ? 0 : counted.get(i - 1)[1];
                if (counted.get(i)[1] != ahead) {
                    int from = i == 0 ? 0 : counted.get(i - 1)[0] + 1;
                    int bits = 0;
                    for (int w = from; w <= counted.get(i)[0]; w++) {
                        bits |= duty.containsKey(w) ? 1 << duty.get(w) : 0;
                    }
                    return bits;
                }
            }
            return -1;
        }

        int book(int m, int w, int much) {
            need(isMember(m) && within(w, 0, week), -3);
            need(within(much, -9999999, 9999999), -7);
            need(books.size() < 20, -8);
            books.add(new int[] {m, w, much});
            return books.size();
        }

        int wrong() {
            int bits = 0;
            for (int i = 0; i < books.size(); i++) {
                int[] b = books.get(i);
                bits |= saved(b[0], b[1], week) != b[2] ? 1 << i : 0;
            }
            return bits;
        }

        int count(int what) {
            need(within(what, 0, 15), -7);
            int open = 0;
            int owed = 0;
            for (Loan l : loans) {
                open += l.state == 0 ? 1 : 0;
                owed += l.state == 0 ? owed(l) : 0;
            }
            int dormant = 0;
            int saved = 0;
            for (int m = 0; m < members.size(); m++) {
                dormant += dormant(m) ? 1 : 0;
                saved += saved(m);
            }
            return new int[] {week, members.size(), entries.size(), (int) cash, (int) reserve, asks.size(),
                loans.size(), open, rules.size(), 0, years.size(), books.size(), counted.size(), dormant, saved,
                owed}[what];
        }
    }
}
