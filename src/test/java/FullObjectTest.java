/** An object that is full: 60 bills, 200 lines, 60 boxes, depth 4, a box on 4 bills. What is not full goes on. */
public final class FullObjectTest {
    private static final int NONE = BillMatch.NONE;
    private static final Expect EXPECT = new Expect("a full object");

    public static void main(String[] args) {
        EXPECT.sentence("60 at most, 200 lines at most in all, depth 4 at most, of 4 at most", FullObjectTest::isFull);
        EXPECT.sentence("what needs no new row goes on", FullObjectTest::goesOn);
        EXPECT.sentence("all boxes wait, and all are on one bill", FullObjectTest::lastBoxes);
        EXPECT.sentence("masters that differ", FullObjectTest::masters);
        EXPECT.end();
    }

    private static void isFull() {
        BillMatch x = new BillMatch();
        Given.full(x);
        EXPECT.same("bills", 60, x.count(0));
        EXPECT.same("boxes", 60, x.count(1));
        EXPECT.same("lines", 200, x.count(2));
        EXPECT.same("depth of bill 3", 4, x.look(3, 3));
        EXPECT.same("depth of bill 59", 4, x.look(59, 3));
        EXPECT.same("bills that box 0 is on", 4, x.seen(0, 4));
        EXPECT.same("under bill 2", 57, x.look(2, 13));
        int[] bills = {0, 3, 5, 59};
        int[] shares = {251, 251, 251, 250};
        for (int i = 0; i < 4; i++) {
            EXPECT.same("share of bill " + bills[i], shares[i], x.look(bills[i], 8));
        }
        EXPECT.same("orders of bill 3", 1, x.look(3, 12));
        EXPECT.same("the one that waits", 1, x.waits(0));
        EXPECT.same("no second one", NONE, x.waits(1));
    }

    private static void goesOn() {
        EXPECT.allowed("a box on a bill", Given::full, x -> x.on(58, 59));
        EXPECT.allowed("a box lands", Given::full, x -> x.land(59, 1000000));
        EXPECT.allowed("a call arrives", Given::full, x -> x.arrive(0));
        EXPECT.allowed("a leg", Given::full, x -> x.leg(58, 59));
        EXPECT.answers("an amendment", x -> {
            Given.full(x);
            x.arrive(0);
        }, 1099, x -> x.amend(59, 2, 1000000));
        EXPECT.answers("a title passes", Given::full, 1, x -> x.title(59, 0, 9));
        EXPECT.answers("an order", x -> {
            Given.full(x);
            x.on(1, 59);
        }, 1, x -> x.order(59, 1, 0));
    }

    private static void lastBoxes() {
        BillMatch x = new BillMatch();
        for (int i = 0; i < 60; i++) {
            x.bill(3, i, NONE);
            x.box(3, i, 1000000);
            x.land(i, 1000000);
        }
        EXPECT.same("all wait", 60, x.count(6));
        EXPECT.same("the last one that waits", 59, x.waits(59));
        EXPECT.same("one more", NONE, x.waits(60));
        for (int box = 0; box < 60; box++) {
            x.on(box, 59);
        }
        EXPECT.same("none waits", NONE, x.waits(0));
        EXPECT.same("all boxes on one bill", 60, x.look(59, 14));
        EXPECT.same("all have landed on it", 60000000, x.look(59, 8));
        EXPECT.same("the last order", 1, x.order(59, 59, 0));
        EXPECT.same("who gave it", 59, x.seen(59, 6));
        EXPECT.same("orders", 1, x.count(4));
        EXPECT.same("landed", 60, x.count(5));
    }

    private static void masters() {
        BillMatch x = new BillMatch();
        for (int i = 0; i < 60; i++) {
            x.bill(3, i, i % 2 == 0 ? NONE : i - 1);
        }
        for (int line = 0; line < 200; line++) {
            x.line(59, 1000000, 10000);
        }
        EXPECT.same("one master differs", 1, x.count(8));
        EXPECT.same("by all", -200000000, x.look(58, 7));
        EXPECT.same("the last master", 58, x.look(59, 15));
        EXPECT.same("under it", 1, x.look(58, 13));
        EXPECT.same("the last one alike", 59, x.like(3, 59, 14));
        EXPECT.same("one more alike", NONE, x.like(3, 59, 15));
    }
}
