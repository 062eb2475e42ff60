/** Promise 10: order. */
public final class OrderTest {
    private static final int NONE = BillMatch.NONE;
    private static final Expect EXPECT = new Expect("promise 10");

    public static void main(String[] args) {
        ordinary();
        refusals();
        wrongInputs();
        EXPECT.end();
    }

    /** Box 0 and 1 on both bills and landed, box 2 on bill 0 and not landed, box 3 landed and on none. */
    private static void four(BillMatch x) {
        x.bill(0, 1, NONE);
        x.bill(0, 2, NONE);
        x.title(1, 0, 7);
        for (int box = 0; box < 4; box++) {
            x.box(0, box, 10);
        }
        x.on(0, 0);
        x.on(0, 1);
        x.on(1, 0);
        x.on(1, 1);
        x.on(2, 0);
        x.land(0, 1);
        x.land(1, 0);
        x.land(3, 1);
    }

    private static void ordinary() {
        BillMatch x = new BillMatch();
        four(x);
        EXPECT.same("bill 1 orders box 0", 1, x.order(1, 0, 7));
        EXPECT.same("who ordered box 0", 1, x.seen(0, 6));
        EXPECT.same("who ordered box 1", NONE, x.seen(1, 6));
        EXPECT.same("bill 0 orders box 1", 1, x.order(0, 1, 0));
        EXPECT.same("orders of 0", 1, x.look(0, 12));
        EXPECT.same("orders of 1", 1, x.look(1, 12));
        EXPECT.same("bill 0 orders box 2 when it has landed", true, x.land(2, 3));
        EXPECT.same("a second order for a bill", 1, x.order(0, 2, 0));
        EXPECT.same("orders of 0 then", 2, x.look(0, 12));
        EXPECT.same("orders", 3, x.count(4));
    }

    private static void ordered(BillMatch x) {
        four(x);
        x.order(1, 0, 7);
    }

    private static void refusals() {
        EXPECT.refused("ordered, by the same bill", OrderTest::ordered, 0, x -> x.order(1, 0, 7));
        EXPECT.refused("ordered, by another bill", OrderTest::ordered, 0, x -> x.order(0, 0, 0));
        EXPECT.refused("not on the bill", OrderTest::four, 0, x -> x.order(0, 3, 0));
        EXPECT.refused("on bill 0 alone", OrderTest::four, 0, x -> x.order(1, 2, 7));
        EXPECT.refused("has not landed", OrderTest::four, 0, x -> x.order(0, 2, 0));
        EXPECT.refused("not the holder", OrderTest::four, 0, x -> x.order(1, 0, 0));
    }

    private static void wrongInputs() {
        Class<?> illegal = IllegalArgumentException.class;
        EXPECT.thrown("bill -1", OrderTest::four, illegal, x -> x.order(-1, 0, 0));
        EXPECT.thrown("bill 2", OrderTest::four, illegal, x -> x.order(2, 0, 0));
        EXPECT.thrown("box -1", OrderTest::four, illegal, x -> x.order(0, -1, 0));
        EXPECT.thrown("box 4", OrderTest::four, illegal, x -> x.order(0, 4, 0));
        EXPECT.thrown("holder -1", OrderTest::four, illegal, x -> x.order(0, 0, -1));
        EXPECT.thrown("holder 10", OrderTest::four, illegal, x -> x.order(0, 0, 10));
        EXPECT.thrown("holder 10, ordered", OrderTest::ordered, illegal, x -> x.order(0, 0, 10));
    }
}
