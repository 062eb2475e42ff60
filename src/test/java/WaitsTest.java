/** Promise 15: waits. */
public final class WaitsTest {
    private static final int NONE = BillMatch.NONE;
    private static final Expect EXPECT = new Expect("promise 15");

    public static void main(String[] args) {
        EXPECT.sentence("The i-th box that WAITS", WaitsTest::theIth);
        EXPECT.sentence("NONE without", WaitsTest::without);
        EXPECT.sentence("It WAITS if it has landed and is on no bill.", WaitsTest::noMore);
        EXPECT.sentence("60 at most", WaitsTest::sixty);
        EXPECT.end();
    }

    /** Boxes 1, 4, 5 wait; box 3 is on a bill, boxes 0 and 2 have not landed. */
    private static void three(BillMatch x) {
        x.bill(0, 1, NONE);
        for (int box = 0; box < 6; box++) {
            x.box(0, 10 - box, 1);
        }
        x.land(5, 1);
        x.land(3, 1);
        x.land(1, 1);
        x.land(4, 1);
        x.on(3, 0);
    }

    private static void theIth() {
        int[] due = {1, 4, 5};
        for (int place = 0; place < due.length; place++) {
            int i = place;
            EXPECT.answers("waits " + i, WaitsTest::three, due[i], x -> x.waits(i));
        }
        EXPECT.answers("box 0", x -> {
            three(x);
            x.land(0, 0);
        }, 0, x -> x.waits(0));
    }

    private static void without() {
        int[] none = {3, 4, 60, -1, -2, Integer.MAX_VALUE, Integer.MIN_VALUE};
        for (int i : none) {
            EXPECT.refused("waits " + i, WaitsTest::three, NONE, x -> x.waits(i));
            EXPECT.refused("waits " + i + " of none", Given::nothing, NONE, x -> x.waits(i));
        }
        EXPECT.refused("none landed", x -> x.box(0, 1, 1), NONE, x -> x.waits(0));
    }

    private static void noMore() {
        BillMatch x = new BillMatch();
        three(x);
        x.on(1, 0);
        EXPECT.same("the first one then", 4, x.waits(0));
        EXPECT.same("the second one then", 5, x.waits(1));
        EXPECT.same("no third one then", NONE, x.waits(2));
    }

    private static void sixty() {
        BillMatch x = new BillMatch();
        Given.sixtyBoxes(x);
        for (int box = 0; box < 60; box++) {
            x.land(box, box);
        }
        for (int box = 0; box < 60; box++) {
            EXPECT.same("waits " + box, box, x.waits(box));
        }
        EXPECT.same("waits 60", NONE, x.waits(60));
        EXPECT.same("waits -1", NONE, x.waits(-1));
    }
}
