/** Promises 13 to 17 of an object that can hold no more: each question still has its answer. */
public final class FullObjectTest {
    private static final int NONE = BillMatch.NONE;
    private static final Expect EXPECT = new Expect("a full object");

    public static void main(String[] args) {
        masters();
        lastBoxes();
        longestTree();
        EXPECT.end();
    }

    private static BillMatch full() {
        BillMatch x = new BillMatch();
        for (int i = 0; i < 60; i++) {
            x.bill(3, i, i % 2 == 0 ? NONE : i - 1);
            x.box(3, i, 1000000);
        }
        for (int line = 0; line < 200; line++) {
            x.line(59, 1000000, 10000);
        }
        return x;
    }

    private static void masters() {
        BillMatch x = full();
        EXPECT.same("one master differs", 1, x.count(8));
        EXPECT.same("by all", -200000000, x.look(58, 7));
        EXPECT.same("pieces", 2000000, x.look(59, 6));
        EXPECT.same("the last master", 58, x.look(59, 15));
        EXPECT.same("under it", 1, x.look(58, 13));
        EXPECT.same("the last one alike", 59, x.like(3, 59, 14));
        EXPECT.same("one more alike", NONE, x.like(3, 59, 15));
        EXPECT.same("the last line", 0, x.amend(59, 199, 0));
        EXPECT.fails("one more line", IllegalArgumentException.class, () -> x.amend(59, 200, 0));
        EXPECT.fails("look 60", IndexOutOfBoundsException.class, () -> x.look(60, 0));
        EXPECT.fails("seen 60", IndexOutOfBoundsException.class, () -> x.seen(60, 0));
    }

    private static void lastBoxes() {
        BillMatch x = full();
        for (int box = 0; box < 60; box++) {
            x.land(box, 1000000);
        }
        EXPECT.same("all wait", 60, x.count(6));
        EXPECT.same("the last one that waits", 59, x.waits(59));
        EXPECT.same("one more", NONE, x.waits(60));
        for (int box = 0; box < 60; box++) {
            x.on(box, 59);
        }
        EXPECT.same("none waits", NONE, x.waits(0));
        EXPECT.same("all boxes on one bill", 60, x.look(59, 14));
        EXPECT.same("all have landed on it", 60000000, x.look(59, 8));
        EXPECT.same("short", 140000000, x.look(59, 9));
        EXPECT.same("the last order", 1, x.order(59, 59, 0));
        EXPECT.same("who gave it", 59, x.seen(59, 6));
        EXPECT.same("orders", 1, x.count(4));
        EXPECT.same("landed", 60, x.count(5));
    }

    private static void longestTree() {
        BillMatch x = new BillMatch();
        x.bill(0, 0, NONE);
        for (int i = 1; i < 60; i++) {
            x.bill(0, i, i <= 3 ? i - 1 : 2);
        }
        EXPECT.same("under one", 57, x.look(2, 13));
        x.line(59, 1, 0);
        EXPECT.same("one that differs", -1, x.look(2, 7));
        EXPECT.same("masters that differ", 1, x.count(8));
        EXPECT.same("the last one's depth", 4, x.look(59, 3));
        EXPECT.same("the last one's master", 0, x.look(59, 15));
    }
}
