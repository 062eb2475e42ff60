/** Promise 10: order. */
public final class OrderTest {
    private static final int NONE = BillMatch.NONE;
    private static final Class<?> ILLEGAL = IllegalArgumentException.class;
    private static final Expect EXPECT = new Expect("promise 10");

    public static void main(String[] args) {
        EXPECT.sentence("An ORDER: 1", OrderTest::orders);
        EXPECT.sentence("0 if one was given for the box", OrderTest::wasGiven);
        EXPECT.sentence("0 if .. it is not on the bill", OrderTest::notOnTheBill);
        EXPECT.sentence("0 if .. has not landed", OrderTest::hasNotLanded);
        EXPECT.sentence("0 if .. who orders is not the holder", OrderTest::notTheHolder);
        EXPECT.sentence("IllegalArgumentException if there is no such bill", OrderTest::noSuchBill);
        EXPECT.sentence("IllegalArgumentException if there is no such .. box", OrderTest::noSuchBox);
        EXPECT.sentence("IllegalArgumentException if there is no such .. holder", OrderTest::noSuchHolder);
        EXPECT.sentence("60 at most", OrderTest::lastOnes);
        EXPECT.end();
    }

    /**
     * Bill 0 is held by 0, bill 1 by 7. Boxes 0 and 1 are on both and landed, 1 with nothing; box 2 is on bill 0 and
     * has not landed, box 3 has and is on none.
     */
    private static void four(BillMatch x) {
        x.bill(0, 1, NONE);
        x.bill(0, 2, NONE);
        x.title(1, 0, 7);
        for (int box = 0; box < 4; box++) {
            x.box(0, box, 10);
        }
        x.on(0, 0);
        x.on(0, 1);
        x.on(1, 0);
        x.on(1, 1);
        x.on(2, 0);
        x.land(0, 1);
        x.land(1, 0);
        x.land(3, 1);
    }

    private static void orders() {
        BillMatch x = new BillMatch();
        four(x);
        EXPECT.same("bill 1 orders box 0", 1, x.order(1, 0, 7));
        EXPECT.same("who ordered box 0", 1, x.seen(0, 6));
        EXPECT.same("who ordered box 1", NONE, x.seen(1, 6));
        EXPECT.same("bill 0 orders box 1", 1, x.order(0, 1, 0));
        EXPECT.same("orders of 0", 1, x.look(0, 12));
        EXPECT.same("orders of 1", 1, x.look(1, 12));
        x.land(2, 3);
        EXPECT.same("a second order for a bill", 1, x.order(0, 2, 0));
        EXPECT.same("orders of 0 then", 2, x.look(0, 12));
        EXPECT.same("orders", 3, x.count(4));
    }

    private static void ordered(BillMatch x) {
        four(x);
        x.order(1, 0, 7);
    }

    private static void wasGiven() {
        EXPECT.refused("by the same bill", OrderTest::ordered, 0, x -> x.order(1, 0, 7));
        EXPECT.refused("by another bill", OrderTest::ordered, 0, x -> x.order(0, 0, 0));
        EXPECT.answers("another box of that bill", OrderTest::ordered, 1, x -> x.order(1, 1, 7));
    }

    private static void notOnTheBill() {
        EXPECT.refused("on none", OrderTest::four, 0, x -> x.order(0, 3, 0));
        EXPECT.refused("on another one", x -> {
            four(x);
            x.land(2, 1);
        }, 0, x -> x.order(1, 2, 7));
        EXPECT.refused("of another call", x -> {
            four(x);
            x.box(1, 0, 1);
            x.land(4, 1);
        }, 0, x -> x.order(0, 4, 0));
    }

    private static void hasNotLanded() {
        EXPECT.refused("not landed", OrderTest::four, 0, x -> x.order(0, 2, 0));
        EXPECT.answers("landed with nothing", OrderTest::four, 1, x -> x.order(0, 1, 0));
        EXPECT.answers("once it has landed", x -> {
            four(x);
            x.order(0, 2, 0);
            x.land(2, 1);
        }, 1, x -> x.order(0, 2, 0));
    }

    private static void notTheHolder() {
        EXPECT.refused("who held it before", OrderTest::four, 0, x -> x.order(1, 0, 0));
        EXPECT.refused("who never held it", OrderTest::four, 0, x -> x.order(0, 0, 9));
        EXPECT.refused("the holder of another bill over the box", OrderTest::four, 0, x -> x.order(0, 0, 7));
        EXPECT.answers("the largest holder", x -> {
            four(x);
            x.title(0, 0, 9);
        }, 1, x -> x.order(0, 0, 9));
    }

    private static void noSuchBill() {
        int[] none = {-1, 2, 3, 59, 60, 64, Integer.MAX_VALUE, Integer.MIN_VALUE};
        for (int bill : none) {
            EXPECT.thrown("bill " + bill, OrderTest::four, ILLEGAL, x -> x.order(bill, 0, 0));
        }
    }

    private static void noSuchBox() {
        int[] none = {-1, 4, 5, 59, 60, Integer.MAX_VALUE, Integer.MIN_VALUE};
        for (int box : none) {
            EXPECT.thrown("box " + box, OrderTest::four, ILLEGAL, x -> x.order(0, box, 0));
        }
    }

    private static void noSuchHolder() {
        int[] none = {-1, 10, 11, Integer.MAX_VALUE, Integer.MIN_VALUE};
        for (int holder : none) {
            EXPECT.thrown("holder " + holder, OrderTest::four, ILLEGAL, x -> x.order(0, 0, holder));
            EXPECT.thrown("holder " + holder + ", ordered", OrderTest::ordered, ILLEGAL, x -> x.order(0, 0, holder));
            EXPECT.thrown("holder " + holder + ", on none", OrderTest::four, ILLEGAL, x -> x.order(0, 3, holder));
        }
    }

    private static void sixty(BillMatch x) {
        for (int i = 0; i < 60; i++) {
            x.bill(0, i, NONE);
            x.box(0, i, 1);
        }
        x.on(59, 59);
        x.land(59, 1);
    }

    private static void lastOnes() {
        EXPECT.answers("box 59 of bill 59", OrderTest::sixty, 1, x -> x.order(59, 59, 0));
        EXPECT.thrown("box 60", OrderTest::sixty, ILLEGAL, x -> x.order(59, 60, 0));
        EXPECT.thrown("bill 60", OrderTest::sixty, ILLEGAL, x -> x.order(60, 59, 0));
    }
}
