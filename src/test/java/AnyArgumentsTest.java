import java.lang.management.ManagementFactory;

/**
 * Rules 7, 12 and 13 of LANGUAGE.md: whatever is called in whatever state, also far behind the 512th call, nothing
 * throws; like calls answer alike; no call makes an object.
 */
public final class AnyArgumentsTest {
    private static final Check C = new Check("AnyArgumentsTest");
    private static final int OBJECTS = 40;
    private static final int CALLS = 12000;
    // What an object may take in bytes, some 16,500 numbers: a room has place for 7.3 million of them in all.
    private static final long MOST_BYTES = 120000;
    private static final String[] NAMES = ("member died save save save draw found saved look ask ask back back askOf "
        + "answer answer pay loanOf dues taken alike feed wipe rule text says why run cost year got voided runs calm "
        + "best judge fall duty counted suspects book wrong count image undo lay set set tear row copy status")
        .split(" ");
    // These would soon have all weeks closed, or all as it was: most of them are left out.
    private static final String SELDOM = " run image undo wipe ";
    private static final int[] EDGES = {Integer.MIN_VALUE, Integer.MIN_VALUE + 1, -100000, -99999, -10, -8, -1, 0, 1, 2,
        3, 4, 5, 7, 8, 9, 10, 11, 12, 15, 16, 20, 23, 24, 51, 52, 60, 99, 100, 115, 123, 124, 400, 401, 1000, 1001,
        99999, 100000, 9999999, 1 << 24, Integer.MAX_VALUE - 1, Integer.MAX_VALUE};
    private static final String[] PIECES = ("work street saved owed joined late kind sum week cash 0 1 2 7 99999 100000 "
        + "x if and or not ( ) + - * / % = < >").split(" ");
    private static final String[] RULES = {"bond 1", "bond saved > 0 or work", "limit 99999 * 99999 * 7",
        "limit cash * saved / late", "limit -(-(-5000))", "rate not not not kind", "rate 0 - sum * sum",
        "reserve 100 if week % 3 = 0", "reserve 0 - 7", "div cash % (week - 51)", "div 200 if 1", "dormant 1",
        "dormant joined - week if street < work", "limit ((((((1))))))", "limit (((((((1)))))))", "limit", ""};

    private final Dice dice;
    private final String[] names = new String[CALLS];
    private final int[][] args = new int[CALLS][];
    private final long[] answers = new long[CALLS];
    private int size = 0;
    // The others never go back, so that their weeks come to an end.
    private final boolean goesBack;

    private AnyArgumentsTest(long seed) {
        dice = new Dice(seed);
        goesBack = seed % 2 == 0;
        while (size < CALLS) {
            choose();
        }
    }

    private void choose() {
        String name = NAMES[dice.from(0, NAMES.length - 1)];
        if (name.equals("text")) {
            text();
        } else if (name.equals("undo") && !goesBack) {
            return;
        } else if (SELDOM.indexOf(" " + name + " ") < 0 || dice.from(0, 4) == 0) {
            add(name, number(), number(), number());
        }
    }

    private void add(String name, int a, int b, int c) {
        if (size < CALLS) {
            names[size] = name;
            args[size] = new int[] {a, b, c};
            size++;
        }
    }

    public static void main(String[] args) {
        for (int i = 0; i < OBJECTS; i++) {
            new AnyArgumentsTest(i + 1).go();
        }
        takesLittle();
        C.end();
    }

    private int number() {
        switch (dice.from(0, 5)) {
            case 0: return EDGES[dice.from(0, EDGES.length - 1)];
            case 1: return dice.from(Integer.MIN_VALUE, Integer.MAX_VALUE);
            case 2: return dice.from(0, 60);
            case 3: return dice.from(0, 400);
            default: return dice.from(0, 15);
        }
    }

    /** A text on an empty tape, that is a rule or not, and the reading of it. */
    private void text() {
        StringBuilder text = new StringBuilder(RULES[dice.from(0, RULES.length - 1)]);
        for (int i = dice.from(-9, 9); i > 0; i--) {
            text.append(' ').append(PIECES[dice.from(0, PIECES.length - 1)]);
        }
        add("wipe", 0, 0, 0);
        for (int i = 0; i < text.length(); i++) {
            add("feed", text.charAt(i), 1, 0);
        }
        add("rule", dice.from(0, 20), dice.from(10, 1000), 0);
    }

    private void go() {
        CommonBond x = new CommonBond();
        for (int i = 0; i < CALLS; i++) {
            try {
                answers[i] = Calls.call(x, names[i], args[i]);
            } catch (RuntimeException | StackOverflowError e) {
                C.so("call " + i + ", " + names[i] + java.util.Arrays.toString(args[i]) + " threw " + e, false);
                return;
            }
        }
        CommonBond y = new CommonBond();
        int first = CALLS;
        long before = allocated();
        for (int i = 0; i < CALLS; i++) {
            if (Calls.call(y, names[i], args[i]) != answers[i]) {
                first = Math.min(first, i);
            }
        }
        long made = allocated() - before;
        C.due("calls that answer alike in an object that gets the same ones", first, CALLS);
        // What the asking itself takes; one small object a call would be a hundred times as much.
        C.so("no call makes an object, but " + made + " bytes were taken", made < 2000);
    }

    private static void takesLittle() {
        new CommonBond();
        long before = allocated();
        CommonBond x = new CommonBond();
        long made = allocated() - before;
        C.due("a new one", x.count(0), 0);
        C.so("a new object takes " + made + " bytes", made < MOST_BYTES);
    }

    /** The bytes that this thread has taken so far; 0 on a machine that does not tell. */
    private static long allocated() {
        if (ManagementFactory.getThreadMXBean() instanceof com.sun.management.ThreadMXBean bean
            && bean.isThreadAllocatedMemorySupported() && bean.isThreadAllocatedMemoryEnabled()) {
            return bean.getThreadAllocatedBytes(Thread.currentThread().getId());
        }
        return 0;
    }
}
