/** Promise 6: land. */
public final class LandTest {
    private static final int NONE = BillMatch.NONE;
    private static final Expect EXPECT = new Expect("promise 6");

    public static void main(String[] args) {
        ordinary();
        refusals();
        shares();
        EXPECT.end();
    }

    private static void one(BillMatch x) {
        x.box(0, 5, 10);
    }

    private static void ordinary() {
        BillMatch x = new BillMatch();
        x.box(0, 1, 10);
        x.box(0, 2, 10);
        x.box(0, 3, 10);
        EXPECT.same("not landed", NONE, x.seen(0, 3));
        EXPECT.same("0 kilograms", true, x.land(0, 0));
        EXPECT.same("1000000 kilograms", true, x.land(2, 1000000));
        EXPECT.same("landed 0", 0, x.seen(0, 3));
        EXPECT.same("landed 2", 1000000, x.seen(2, 3));
        EXPECT.same("landed 1", NONE, x.seen(1, 3));
        EXPECT.same("its weight stays", 10, x.seen(2, 2));
        EXPECT.same("boxes that landed", 2, x.count(5));
        EXPECT.same("a second time", false, x.land(0, 7));
        EXPECT.same("landed 0 still", 0, x.seen(0, 3));
    }

    private static long bit(boolean answer) {
        return answer ? 1 : 0;
    }

    private static void refusals() {
        EXPECT.refused("box -1", LandTest::one, 0, x -> bit(x.land(-1, 1)));
        EXPECT.refused("box 1", LandTest::one, 0, x -> bit(x.land(1, 1)));
        EXPECT.refused("-1 kilograms", LandTest::one, 0, x -> bit(x.land(0, -1)));
        EXPECT.refused("1000001 kilograms", LandTest::one, 0, x -> bit(x.land(0, 1000001)));
    }

    /** Seven kilograms on four bills: 2, 2, 2, 1, in the order of the bills' numbers here. */
    private static void shares() {
        BillMatch x = new BillMatch();
        for (int bill = 0; bill < 5; bill++) {
            x.bill(0, 100 - bill, NONE);
        }
        x.box(0, 1, 500);
        x.land(0, 7);
        x.on(0, 4);
        EXPECT.same("alone", 7, x.look(4, 8));
        x.on(0, 0);
        EXPECT.same("of two, first", 4, x.look(0, 8));
        EXPECT.same("of two, second", 3, x.look(4, 8));
        x.on(0, 2);
        x.on(0, 1);
        int[] due = {2, 2, 2, 0, 1};
        for (int bill = 0; bill < 5; bill++) {
            EXPECT.same("of four, bill " + bill, due[bill], x.look(bill, 8));
        }
        x.box(0, 2, 1);
        x.on(1, 2);
        EXPECT.same("a box that has not landed", 2, x.look(2, 8));
        x.land(1, 40);
        EXPECT.same("a second box", 42, x.look(2, 8));
    }
}
