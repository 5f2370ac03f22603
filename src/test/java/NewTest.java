/** Promise 1: a new object. */
public final class NewTest {
    public static void main(String[] args) {
        Check c = new Check("NewTest");
        Bond x = new Bond();
        for (int i = 0; i < 16; i++) {
            c.due("count(" + i + ")", x.count(i), 0);
        }
        c.due("suspects", x.suspects(), CommonBond.NONE);
        c.due("wrong", x.wrong(), 0);
        for (int i = -8; i <= -2; i++) {
            c.due("status(" + i + ")", x.status(i), 0);
        }
        c.due("says bond", x.says(0, -1), 1);
        c.due("why bond", x.why(0, -1), CommonBond.NONE);
        c.due("tear", x.tear(), 0);
        c.due("judge", x.judge(), CommonBond.MISSING);
        c.due("undo", x.undo(), CommonBond.MISSING);
        c.due("best", x.best(0), 0);
        for (int i = 0; i < 4; i++) {
            c.due("calm", x.calm(i), 0);
        }
        c.end();
    }
}
