/** Promise 5: on. */
public final class OnTest {
    private static final int NONE = BillMatch.NONE;
    private static final Expect EXPECT = new Expect("promise 5");

    public static void main(String[] args) {
        ordinary();
        refusals();
        orders();
        lastRows();
        EXPECT.end();
    }

    private static void five(BillMatch x) {
        for (int bill = 0; bill < 5; bill++) {
            x.bill(0, bill, NONE);
        }
        x.bill(1, 0, NONE);
        x.box(0, 0, 10);
        x.on(0, 3);
    }

    private static void ordinary() {
        BillMatch x = new BillMatch();
        five(x);
        EXPECT.same("on 1", true, x.on(0, 1));
        EXPECT.same("on 4", true, x.on(0, 4));
        EXPECT.same("on 0", true, x.on(0, 0));
        EXPECT.same("a fifth", false, x.on(0, 2));
        EXPECT.same("bills of the box", 4, x.seen(0, 4));
        int[] due = {0, 1, 3, 4};
        for (int place = 0; place < due.length; place++) {
            EXPECT.same("place " + place, due[place], x.seen(0, 10 + place));
        }
        EXPECT.same("boxes on 3", 1, x.look(3, 14));
        EXPECT.same("boxes on 2", 0, x.look(2, 14));
        x.box(0, 1, 1);
        EXPECT.same("a second box", true, x.on(1, 3));
        EXPECT.same("boxes on 3 then", 2, x.look(3, 14));
    }

    private static long bit(boolean answer) {
        return answer ? 1 : 0;
    }

    private static void refusals() {
        EXPECT.refused("box -1", OnTest::five, 0, x -> bit(x.on(-1, 0)));
        EXPECT.refused("box 1", OnTest::five, 0, x -> bit(x.on(1, 0)));
        EXPECT.refused("bill -1", OnTest::five, 0, x -> bit(x.on(0, -1)));
        EXPECT.refused("bill 6", OnTest::five, 0, x -> bit(x.on(0, 6)));
        EXPECT.refused("bill 64, a bit that wraps round", OnTest::five, 0, x -> bit(x.on(0, 64)));
        EXPECT.refused("another call", OnTest::five, 0, x -> bit(x.on(0, 5)));
        EXPECT.refused("it is so", OnTest::five, 0, x -> bit(x.on(0, 3)));
    }

    private static void ordered(BillMatch x) {
        five(x);
        x.land(0, 10);
        x.order(3, 0, 0);
        x.box(0, 1, 5);
    }

    private static void orders() {
        EXPECT.refused("the box was ordered", OnTest::ordered, 0, x -> bit(x.on(0, 1)));
        BillMatch x = new BillMatch();
        ordered(x);
        EXPECT.same("another box on the bill that ordered", true, x.on(1, 3));
    }

    private static void lastRows() {
        BillMatch x = new BillMatch();
        for (int i = 0; i < 60; i++) {
            x.bill(0, i, NONE);
            x.box(0, i, 1);
        }
        EXPECT.same("the last box on the last bill", true, x.on(59, 59));
        EXPECT.same("and on the first one", true, x.on(59, 0));
        EXPECT.same("least", 0, x.seen(59, 10));
        EXPECT.same("greatest", 59, x.seen(59, 11));
        EXPECT.same("bill 60", false, x.on(59, 60));
        EXPECT.same("box 60", false, x.on(60, 0));
    }
}
