/** All that can be asked of an object by calls that are not refused. */
final class Look {
    private Look() {
    }

    static int[] status(CommonBond x) {
        int[] all = new int[7];
        for (int i = 0; i < 7; i++) {
            all[i] = x.status(-(i + 2));
        }
        return all;
    }

    static long[] all(CommonBond x) {
        Out out = new Out();
        for (int i = 0; i < 16; i++) {
            out.put(x.count(i));
        }
        members(x, out);
        asks(x, out);
        loans(x, out);
        rest(x, out);
        return java.util.Arrays.copyOf(out.all, out.size);
    }

    private static void members(CommonBond x, Out out) {
        int week = x.count(0);
        for (int m = 0; m < x.count(1); m++) {
            for (int what = 0; what < 10; what++) {
                out.put(x.look(m, what));
            }
            for (int w = Math.max(0, week - 60); w <= week; w++) {
                out.put(x.saved(m, w, week));
                out.put(x.saved(m, week, w));
            }
            for (int key = 0; key < 6; key++) {
                out.put(x.says(key, m));
                out.put(x.why(key, m));
            }
            for (int what = 0; what < 3; what++) {
                out.put(x.fall(m, what));
            }
        }
    }

    private static void asks(CommonBond x, Out out) {
        for (int a = 0; a < x.count(5); a++) {
            for (int what = 0; what < 10; what++) {
                out.put(x.askOf(a, what));
            }
            for (int b = 0; b < a; b++) {
                out.put(x.alike(a, b));
            }
            out.put(x.best(1 << a));
        }
        out.put(x.best((1 << Math.min(8, x.count(5))) - 1));
    }

    private static void loans(CommonBond x, Out out) {
        for (int l = 0; l < x.count(6); l++) {
            for (int what = 0; what < 11; what++) {
                out.put(x.loanOf(l, what));
            }
            out.put(x.dues(l, x.count(0)));
            out.put(x.dues(l, x.count(0) + 1));
        }
    }

    private static void rest(CommonBond x, Out out) {
        for (int y = 0; y < x.count(10); y++) {
            for (int what = 0; what < 7; what++) {
                out.put(x.year(y, what));
            }
            for (int m = 0; m < x.count(1); m++) {
                for (int what = 0; what < 6; what++) {
                    out.put(x.got(y, m, what));
                }
            }
        }
        for (int key = 0; key < 6; key++) {
            out.put(x.says(key, -1));
            out.put(x.why(key, -1));
        }
        out.put(x.suspects());
        out.put(x.wrong());
    }

    private static final class Out {
        long[] all = new long[1024];
        int size = 0;

        void put(long answer) {
            if (size == all.length) {
                all = java.util.Arrays.copyOf(all, 2 * size);
            }
            all[size] = answer;
            size++;
        }
    }
}
