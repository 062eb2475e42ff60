/** Promise 4: box. */
public final class BoxTest {
    private static final int NONE = BillMatch.NONE;
    private static final Expect EXPECT = new Expect("promise 4");

    public static void main(String[] args) {
        ordinary();
        wrongInputs();
        full();
        EXPECT.end();
    }

    private static void one(BillMatch x) {
        x.box(0, 5, 10);
    }

    private static void ordinary() {
        BillMatch x = new BillMatch();
        EXPECT.same("first", 0, x.box(0, 0, 0));
        EXPECT.same("edges", 1, x.box(3, 99999999, 1000000));
        EXPECT.same("the number in another call", 2, x.box(1, 0, 4));
        EXPECT.same("a bill's number is no box's", 0, x.bill(1, 7, NONE));
        EXPECT.same("a box of a bill's number", 3, x.box(1, 7, 9));
        int[] due = {3, 99999999, 1000000, NONE, 0, 0, NONE, NONE, 1, 1000000};
        for (int what = 0; what < due.length; what++) {
            EXPECT.same("new box, what " + what, due[what], x.seen(1, what));
        }
        EXPECT.same("boxes", 4, x.count(1));
        EXPECT.refused("number taken", BoxTest::one, NONE, y -> y.box(0, 5, 11));
    }

    private static void wrongInputs() {
        Class<?> illegal = IllegalArgumentException.class;
        EXPECT.thrown("call -1", BoxTest::one, illegal, x -> x.box(-1, 1, 1));
        EXPECT.thrown("call 4", BoxTest::one, illegal, x -> x.box(4, 1, 1));
        EXPECT.thrown("number -1", BoxTest::one, illegal, x -> x.box(0, -1, 1));
        EXPECT.thrown("number too great", BoxTest::one, illegal, x -> x.box(0, 100000000, 1));
        EXPECT.thrown("weight -1", BoxTest::one, illegal, x -> x.box(0, 1, -1));
        EXPECT.thrown("weight too great", BoxTest::one, illegal, x -> x.box(0, 1, 1000001));
        EXPECT.thrown("number taken, weight wrong", BoxTest::one, illegal, x -> x.box(0, 5, -1));
    }

    private static void full() {
        BillMatch x = new BillMatch();
        for (int box = 0; box < 60; box++) {
            EXPECT.same("box " + box, box, x.box(box % 4, box, 1));
        }
        EXPECT.fails("61st", IllegalStateException.class, () -> x.box(0, 1000, 1));
        EXPECT.fails("61st, number taken", IllegalStateException.class, () -> x.box(0, 0, 1));
        EXPECT.fails("61st, weight wrong", IllegalArgumentException.class, () -> x.box(0, 1000, -1));
        EXPECT.same("boxes", 60, x.count(1));
    }
}
