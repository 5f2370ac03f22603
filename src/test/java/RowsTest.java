/** Promises 41 to 46: the row, and how often calls were refused. */
public final class RowsTest {
    private static final Check C = new Check("RowsTest");

    public static void main(String[] args) {
        lay();
        set();
        tear();
        row();
        copy();
        status();
        C.end();
    }

    private static Bond laid(int... numbers) {
        Bond x = new Bond();
        x.lay(numbers.length);
        for (int i = 0; i < numbers.length; i++) {
            x.set(i, numbers[i]);
        }
        return x;
    }

    private static void due(String what, Bond x, int... numbers) {
        for (int i = 0; i < numbers.length; i++) {
            C.due(what + ", number " + i, x.row(i), numbers[i]);
        }
    }

    private static void lay() {
        Bond x = new Bond();
        C.refused("-1", x, () -> x.lay(-1), -4, -4);
        C.refused("13", x, () -> x.lay(13), -7, -7);
        C.refused("far below", x, () -> x.lay(Integer.MIN_VALUE), -4, -4);
        C.refused("far above", x, () -> x.lay(Integer.MAX_VALUE), -7, -7);
        C.due("it is missing still", x.tear(), 0);
        C.due("none", x.lay(0), 0);
        C.due("it is there", x.tear(), 1);
        C.due("the most", x.lay(12), 12);
        due("all 0", x, 0, 0, 0, 0, 0, 0, 0, 0, 0, 0, 0, 0);
        x.set(2, 7);
        x.lay(13);
        C.due("a refused one leaves it", x.row(2), 7);
        C.due("anew", x.lay(3), 3);
        due("all 0", x, 0, 0, 0);
        C.refused("shorter", x, () -> x.row(3), 0, -3);
    }

    private static void set() {
        Bond x = new Bond();
        C.refused("missing", x, () -> x.set(0, 1), 0, -2);
        C.refused("MISSING ahead of BEYOND", x, () -> x.set(-1, 1), 0, -2);
        x.lay(2);
        C.due("the one before", x.set(1, Integer.MIN_VALUE), 0);
        C.due("the one before", x.set(1, Integer.MAX_VALUE), Integer.MIN_VALUE);
        C.due("the one before", x.set(1, -5), Integer.MAX_VALUE);
        due("set", x, 0, -5);
        C.refused("2", x, () -> x.set(2, 1), 0, -3);
        C.refused("-1", x, () -> x.set(-1, 1), 0, -3);
        x.lay(0);
        C.refused("of none", x, () -> x.set(0, 1), 0, -3);
    }

    private static void tear() {
        Bond x = new Bond();
        C.due("missing at first", x.tear(), 0);
        x.lay(1);
        x.set(0, 4);
        C.due("there", x.tear(), 1);
        C.due("no more", x.tear(), 0);
        C.refused("it is missing", x, () -> x.row(0), 0, -2);
        x.lay(1);
        C.due("all 0", x.row(0), 0);
    }

    private static void row() {
        Bond x = new Bond();
        C.refused("missing", x, () -> x.row(0), 0, -2);
        C.refused("MISSING ahead of BEYOND", x, () -> x.row(12), 0, -2);
        x.lay(2);
        x.set(0, 6);
        C.due("a number", x.row(0), 6);
        C.refused("2", x, () -> x.row(2), 0, -3);
        C.refused("-1", x, () -> x.row(-1), 0, -3);
    }

    private static void copy() {
        Bond x = new Bond();
        C.refused("missing", x, () -> x.copy(0, 0, 0), -2, -2);
        C.refused("MISSING ahead of BELOW", x, () -> x.copy(0, 0, -1), -2, -2);
        Bond y = laid(1, 2, 3, 4, 5);
        C.due("to the right, over itself", y.copy(0, 1, 4), 4);
        due("as they were", y, 1, 1, 2, 3, 4);
        C.due("to the left, over itself", y.copy(2, 0, 3), 3);
        due("as they were", y, 2, 3, 4, 3, 4);
        C.due("onto itself", y.copy(0, 0, 5), 5);
        C.due("none", y.copy(5, 5, 0), 0);
        due("the same", y, 2, 3, 4, 3, 4);
        C.refused("-1", y, () -> y.copy(0, 0, -1), -4, -4);
        C.refused("BELOW ahead of COPY", y, () -> y.copy(-1, 9, -1), -4, -4);
        C.refused("i below 0", y, () -> y.copy(-1, 0, 1), -6, -6);
        C.refused("j below 0", y, () -> y.copy(0, -1, 1), -6, -6);
        C.refused("i too far", y, () -> y.copy(5, 0, 1), -6, -6);
        C.refused("j too far", y, () -> y.copy(0, 5, 1), -6, -6);
        C.refused("i + n too far", y, () -> y.copy(3, 0, 3), -6, -6);
        C.refused("j + n too far", y, () -> y.copy(0, 3, 3), -6, -6);
        C.refused("6", y, () -> y.copy(0, 0, 6), -6, -6);
        C.refused("none, too far", y, () -> y.copy(6, 0, 0), -6, -6);
        C.refused("a sum that wraps", y, () -> y.copy(1, 0, Integer.MAX_VALUE), -6, -6);
        C.refused("another", y, () -> y.copy(Integer.MAX_VALUE, 0, 1), -6, -6);
        C.refused("and another", y, () -> y.copy(0, Integer.MAX_VALUE, Integer.MAX_VALUE), -6, -6);
        due("the same still", y, 2, 3, 4, 3, 4);
    }

    private static void status() {
        Bond x = new Bond();
        x.undo();
        x.save(0, 1);
        x.saved(0, 0, 0);
        x.saved(0, 0, 0);
        x.lay(-1);
        x.lay(0);
        x.copy(1, 0, 0);
        x.member(10, 0);
        x.count(16);
        Check.feed(x, "zzz");
        x.rule(0, 1);
        for (int i = 0; i < 30; i++) {
            x.feed(0, 4);
        }
        x.member(0, 0);
        x.save(0, 1);
        x.ask(0, 1, 1);
        x.answer(0);
        x.taken(0, 1);
        long[] due = {1, 3, 1, 1, 1, 2, 1};
        for (int i = 0; i < 7; i++) {
            C.due("status of " + -(i + 2), x.status(-(i + 2)), due[i]);
        }
        C.refused("-1", x, () -> x.status(-1), -7, -7);
        C.refused("-9", x, () -> x.status(-9), -7, -7);
        C.refused("0", x, () -> x.status(0), -7, -7);
        C.refused("7", x, () -> x.status(7), -7, -7);
        C.refused("far below", x, () -> x.status(Integer.MIN_VALUE), -7, -7);
        C.due("its own refusals count", x.status(-7), 7);
    }
}
