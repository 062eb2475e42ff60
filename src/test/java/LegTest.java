/** Promise 12: leg. */
public final class LegTest {
    private static final int NONE = BillMatch.NONE;
    private static final Expect EXPECT = new Expect("promise 12");

    public static void main(String[] args) {
        joined();
        refusals();
        longest();
        EXPECT.end();
    }

    /** Boxes of calls 0, 1, 2, 0, 1, with 0 to 1 to 2 joined. */
    private static void five(BillMatch x) {
        for (int box = 0; box < 5; box++) {
            x.box(box % 3, box, 1 << box);
        }
        x.leg(0, 1);
        x.leg(1, 2);
    }

    private static void joined() {
        BillMatch x = new BillMatch();
        five(x);
        int[][] due = {{1, 0, 1}, {2, 0, 3}, {NONE, 0, 7}, {NONE, 3, 8}, {NONE, 4, 16}};
        for (int box = 0; box < due.length; box++) {
            for (int i = 0; i < 3; i++) {
                EXPECT.same("box " + box + " what " + (7 + i), due[box][i], x.seen(box, 7 + i));
            }
        }
        EXPECT.same("on at the end, to a call that was there before", true, x.leg(2, 3));
        EXPECT.same("first of 3", 0, x.seen(3, 8));
        EXPECT.same("on before the beginning", true, x.leg(4, 0));
        EXPECT.same("first of 3 then", 4, x.seen(3, 8));
        EXPECT.same("weight so far of 3", 31, x.seen(3, 9));
        EXPECT.same("weight so far of 0", 17, x.seen(0, 9));
        EXPECT.same("a ring of all", false, x.leg(3, 4));
    }

    private static long bit(boolean answer) {
        return answer ? 1 : 0;
    }

    private static void refusals() {
        EXPECT.refused("box -1", LegTest::five, 0, x -> bit(x.leg(-1, 3)));
        EXPECT.refused("box 5", LegTest::five, 0, x -> bit(x.leg(5, 3)));
        EXPECT.refused("next -1", LegTest::five, 0, x -> bit(x.leg(3, -1)));
        EXPECT.refused("next 5", LegTest::five, 0, x -> bit(x.leg(3, 5)));
        EXPECT.refused("itself", LegTest::five, 0, x -> bit(x.leg(3, 3)));
        EXPECT.refused("of one call", LegTest::five, 0, x -> bit(x.leg(3, 0)));
        EXPECT.refused("it is so", LegTest::five, 0, x -> bit(x.leg(0, 1)));
        EXPECT.refused("goes on as another one", LegTest::five, 0, x -> bit(x.leg(0, 4)));
        EXPECT.refused("is gone on to", LegTest::five, 0, x -> bit(x.leg(4, 2)));
        EXPECT.refused("a ring of three", LegTest::five, 0, x -> bit(x.leg(2, 0)));
        EXPECT.refused("back", LegTest::ahead, 0, x -> bit(x.leg(4, 3)));
    }

    private static void ahead(BillMatch x) {
        five(x);
        x.leg(3, 4);
    }

    private static void longest() {
        BillMatch x = new BillMatch();
        for (int box = 0; box < 60; box++) {
            x.box(box % 2, box, 1000000);
        }
        for (int box = 58; box >= 0; box--) {
            EXPECT.same("leg " + box, true, x.leg(box, box + 1));
        }
        EXPECT.same("first of the last", 0, x.seen(59, 8));
        EXPECT.same("weight of the last", 60000000, x.seen(59, 9));
        EXPECT.same("a ring of all", false, x.leg(59, 0));
    }
}
