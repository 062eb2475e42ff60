/** Promise 6: land. */
public final class LandTest {
    private static final int NONE = BillMatch.NONE;
    private static final Expect EXPECT = new Expect("promise 6");

    public static void main(String[] args) {
        EXPECT.sentence("A box LANDS: true", LandTest::lands);
        EXPECT.sentence("false if there is none such", LandTest::noneSuch);
        EXPECT.sentence("false if .. it has landed", LandTest::hasLanded);
        EXPECT.sentence("false if .. kilograms are not 0 .. 1000000", LandTest::kilograms);
        EXPECT.sentence("60 at most", LandTest::lastOne);
        EXPECT.end();
    }

    private static void two(BillMatch x) {
        x.box(0, 5, 10);
        x.box(0, 6, 10);
    }

    private static void lands() {
        BillMatch x = new BillMatch();
        two(x);
        EXPECT.same("not landed", NONE, x.seen(1, 3));
        EXPECT.same("box 1", true, x.land(1, 30));
        EXPECT.same("box 1 has", 30, x.seen(1, 3));
        EXPECT.same("box 0 has not", NONE, x.seen(0, 3));
        EXPECT.same("its weight stays", 10, x.seen(1, 2));
        EXPECT.same("boxes that landed", 1, x.count(5));
        EXPECT.same("box 0", true, x.land(0, 10));
        EXPECT.same("boxes that landed then", 2, x.count(5));
    }

    private static void noneSuch() {
        int[] none = {-1, 2, 3, 59, 60, Integer.MAX_VALUE, Integer.MIN_VALUE};
        for (int box : none) {
            EXPECT.denied("box " + box, LandTest::two, x -> x.land(box, 1));
        }
    }

    private static void hasLanded() {
        EXPECT.denied("with more", LandTest::oneLanded, x -> x.land(0, 8));
        EXPECT.denied("with as much", LandTest::oneLanded, x -> x.land(0, 7));
        EXPECT.denied("with nothing", LandTest::oneLanded, x -> x.land(0, 0));
        EXPECT.denied("once it landed with nothing", LandTest::landedWithNothing, x -> x.land(0, 7));
        EXPECT.allowed("the other one", LandTest::oneLanded, x -> x.land(1, 7));
    }

    private static void oneLanded(BillMatch x) {
        two(x);
        x.land(0, 7);
    }

    private static void landedWithNothing(BillMatch x) {
        two(x);
        x.land(0, 0);
    }

    private static void kilograms() {
        int[] none = {-1, 1000001, Integer.MAX_VALUE, Integer.MIN_VALUE};
        for (int weight : none) {
            EXPECT.denied(weight + " kilograms", LandTest::two, x -> x.land(0, weight));
        }
        BillMatch x = new BillMatch();
        two(x);
        EXPECT.same("the least", true, x.land(0, 0));
        EXPECT.same("the largest", true, x.land(1, 1000000));
        EXPECT.same("the least is there", 0, x.seen(0, 3));
        EXPECT.same("the largest is there", 1000000, x.seen(1, 3));
        EXPECT.same("both have landed", 2, x.count(5));
    }

    private static void lastOne() {
        EXPECT.allowed("box 59", Given::sixtyBoxes, x -> x.land(59, 1));
        EXPECT.denied("box 60", Given::sixtyBoxes, x -> x.land(60, 1));
    }
}
