/** Promise 12: leg. */
public final class LegTest {
    private static final int NONE = BillMatch.NONE;
    private static final Expect EXPECT = new Expect("promise 12");

    public static void main(String[] args) {
        EXPECT.sentence("A LEG: true", LegTest::joined);
        EXPECT.sentence("false if it can't be: a box", LegTest::noSuchBox);
        EXPECT.sentence("false if it can't be: of one call to one of another call", LegTest::ofOneCall);
        EXPECT.sentence("each box goes on as at most one", LegTest::goesOn);
        EXPECT.sentence("is gone on to by at most one", LegTest::isGoneOnTo);
        EXPECT.sentence("no rings", LegTest::rings);
        EXPECT.sentence("The FIRST box of one is found back along legs.", LegTest::longest);
        EXPECT.end();
    }

    /** Boxes of calls 0, 1, 2, 0, 1, with 0 to 1 to 2 joined. */
    private static void five(BillMatch x) {
        for (int box = 0; box < 5; box++) {
            x.box(box % 3, box, 1 << box);
        }
        x.leg(0, 1);
        x.leg(1, 2);
    }

    private static void joined() {
        BillMatch x = new BillMatch();
        five(x);
        int[][] due = {{1, 0, 1}, {2, 0, 3}, {NONE, 0, 7}, {NONE, 3, 8}, {NONE, 4, 16}};
        for (int box = 0; box < due.length; box++) {
            for (int i = 0; i < 3; i++) {
                EXPECT.same("box " + box + " what " + (7 + i), due[box][i], x.seen(box, 7 + i));
            }
        }
        EXPECT.same("on at the end, to a call that was there before", true, x.leg(2, 3));
        EXPECT.same("first of 3", 0, x.seen(3, 8));
        EXPECT.same("on before the beginning", true, x.leg(4, 0));
        EXPECT.same("first of 3 then", 4, x.seen(3, 8));
        EXPECT.same("weight so far of 3", 31, x.seen(3, 9));
        EXPECT.same("weight so far of 0", 17, x.seen(0, 9));
    }

    private static void noSuchBox() {
        int[] none = {-1, 5, 6, 59, 60, Integer.MAX_VALUE, Integer.MIN_VALUE};
        for (int box : none) {
            EXPECT.denied("from " + box, LegTest::five, x -> x.leg(box, 3));
            EXPECT.denied("to " + box, LegTest::five, x -> x.leg(3, box));
            EXPECT.denied("both " + box, LegTest::five, x -> x.leg(box, box));
        }
        EXPECT.denied("of none at all", Given::nothing, x -> x.leg(0, 1));
    }

    private static void fourOfTwoCalls(BillMatch x) {
        x.box(0, 0, 1);
        x.box(0, 1, 1);
        x.box(1, 0, 1);
        x.box(1, 1, 1);
    }

    private static void ofOneCall() {
        EXPECT.denied("two of call 0", LegTest::fourOfTwoCalls, x -> x.leg(0, 1));
        EXPECT.denied("two of call 1", LegTest::fourOfTwoCalls, x -> x.leg(3, 2));
        EXPECT.denied("a box to itself", LegTest::fourOfTwoCalls, x -> x.leg(0, 0));
        EXPECT.allowed("to a later call", LegTest::fourOfTwoCalls, x -> x.leg(0, 2));
        EXPECT.allowed("to an earlier call", LegTest::fourOfTwoCalls, x -> x.leg(2, 0));
    }

    private static void goesOn() {
        EXPECT.denied("as another one", LegTest::five, x -> x.leg(0, 4));
        EXPECT.denied("as the same one again", LegTest::five, x -> x.leg(0, 1));
        EXPECT.allowed("the last one may", LegTest::five, x -> x.leg(2, 4));
    }

    private static void isGoneOnTo() {
        EXPECT.denied("by another one", LegTest::five, x -> x.leg(4, 2));
        EXPECT.denied("by another one, at the second place", LegTest::five, x -> x.leg(3, 1));
        EXPECT.allowed("the first one may", LegTest::five, x -> x.leg(4, 0));
    }

    private static void rings() {
        EXPECT.denied("of two", x -> {
            fourOfTwoCalls(x);
            x.leg(0, 2);
        }, x -> x.leg(2, 0));
        EXPECT.denied("of three", LegTest::five, x -> x.leg(2, 0));
        EXPECT.denied("of sixty", LegTest::sixty, x -> x.leg(59, 0));
    }

    private static void sixty(BillMatch x) {
        for (int box = 0; box < 60; box++) {
            x.box(box % 2, box, 1000000);
        }
        for (int box = 58; box >= 0; box--) {
            x.leg(box, box + 1);
        }
    }

    private static void longest() {
        BillMatch x = new BillMatch();
        sixty(x);
        for (int box = 0; box < 60; box++) {
            EXPECT.same("first of " + box, 0, x.seen(box, 8));
            EXPECT.same("weight so far of " + box, 1000000 * (box + 1), x.seen(box, 9));
            EXPECT.same("goes on as", box < 59 ? box + 1 : NONE, x.seen(box, 7));
        }
    }
}
