/** All that can be asked of an object, by its twins. */
final class Look {
    private static final int BYTES_OF_THE_TAPE = 9;

    private final Bond.Twins twins;
    private long[] all = new long[1024];
    private int size = 0;

    private Look(Bond x) {
        twins = x.twins();
    }

    static int[] status(Bond x) {
        Look look = new Look(x);
        int[] all = new int[7];
        for (int i = 0; i < 7; i++) {
            all[i] = look.is("status", -(i + 2));
        }
        return all;
    }

    /** All but status(). */
    static long[] all(Bond x) {
        Look look = new Look(x);
        look.kept();
        look.notKept();
        return java.util.Arrays.copyOf(look.all, look.size);
    }

    /** All that an image keeps. */
    static long[] kept(Bond x) {
        Look look = new Look(x);
        look.kept();
        return java.util.Arrays.copyOf(look.all, look.size);
    }

    private void kept() {
        counts();
        members();
        asks();
        loans();
        years();
        keys();
        changing();
    }

    private int is(String name, int... args) {
        return (int) twins.ask(name, args);
    }

    private void put(String name, int... args) {
        if (size == all.length) {
            all = java.util.Arrays.copyOf(all, 2 * size);
        }
        all[size] = twins.ask(name, args);
        size++;
    }

    private void members() {
        int week = is("count", 0);
        for (int m = 0; m < is("count", 1); m++) {
            for (int what = 0; what < 10; what++) {
                put("look", m, what);
            }
            for (int w = Math.max(0, week - 60); w <= week; w++) {
                put("saved", m, w, week);
                put("saved", m, week, w);
            }
            for (int key = 0; key < 6; key++) {
                put("says", key, m);
                put("why", key, m);
            }
            for (int what = 0; what < 3; what++) {
                put("fall", m, what);
            }
        }
    }

    private void asks() {
        int asks = is("count", 5);
        for (int a = 0; a < asks; a++) {
            for (int what = 0; what < 10; what++) {
                put("askOf", a, what);
            }
            for (int b = 0; b < a; b++) {
                put("alike", a, b);
            }
            put("best", 1 << a);
        }
        put("best", (1 << Math.min(8, asks)) - 1);
    }

    private void loans() {
        int week = is("count", 0);
        for (int l = 0; l < is("count", 6); l++) {
            for (int what = 0; what < 11; what++) {
                put("loanOf", l, what);
            }
            put("dues", l, week);
            put("dues", l, week + 1);
        }
    }

    private void years() {
        for (int y = 0; y < is("count", 10); y++) {
            for (int what = 0; what < 7; what++) {
                put("year", y, what);
            }
            for (int m = 0; m < is("count", 1); m++) {
                for (int what = 0; what < 6; what++) {
                    put("got", y, m, what);
                }
            }
        }
    }

    private void keys() {
        for (int key = 0; key < 6; key++) {
            put("says", key, -1);
            put("why", key, -1);
        }
        put("suspects");
        put("wrong");
    }

    private void counts() {
        for (int what = 0; what < 16; what++) {
            if (what != BYTES_OF_THE_TAPE) {
                put("count", what);
            }
        }
    }

    /** What is told only by calls that change what they tell: each sort of them has a twin of its own. */
    private void changing() {
        twins.fresh();
        for (int run = 0; run < 4; run++) {
            for (int w = 0; w < 8; w++) {
                put("runs", run, w, 0);
            }
        }
        twins.fresh();
        for (int run = 0; run < 4; run++) {
            put("calm", run);
        }
        put("duty", 0);
        twins.fresh();
    }

    private void notKept() {
        put("count", BYTES_OF_THE_TAPE);
        put("judge");
        for (int i = 0; i < 12; i++) {
            put("row", i);
        }
        put("tear");
        put("rule", 0, 1);
        for (int what = 0; what < 16; what++) {
            // One twin for both, so that none comes between that is not at its image again.
            twins.fresh();
            is("undo");
            put("count", what);
        }
        twins.fresh();
        put("undo");
        twins.fresh();
    }
}
