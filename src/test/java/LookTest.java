/** Promise 13: look. */
public final class LookTest {
    private static final int NONE = BillMatch.NONE;
    private static final Expect EXPECT = new Expect("promise 13");

    public static void main(String[] args) {
        all();
        differences();
        shortAndOver();
        wrongInputs();
        EXPECT.end();
    }

    private static void tree(BillMatch x) {
        x.bill(1, 40, NONE);
        x.bill(1, 30, 0);
        x.bill(1, 20, 1);
        x.bill(1, 10, 0);
        x.line(1, 600, 6);
        x.line(1, 10, 1);
        x.line(2, 111, 4);
        x.box(1, 5, 70);
        x.box(1, 6, 80);
        x.box(1, 7, 90);
        x.on(0, 1);
        x.on(1, 1);
        x.on(1, 3);
        x.land(0, 65);
        x.land(1, 81);
        x.title(1, 0, 8);
        x.order(1, 0, 8);
    }

    private static void all() {
        BillMatch x = new BillMatch();
        tree(x);
        int[] due = {1, 30, 0, 2, 2, 610, 7, 499, 106, 504, 0, 8, 1, 1, 2, 0};
        for (int what = 0; what < due.length; what++) {
            EXPECT.same("what " + what, due[what], x.look(1, what));
        }
        EXPECT.same("above a master", NONE, x.look(0, 2));
        EXPECT.same("depth of a master", 1, x.look(0, 3));
        EXPECT.same("directly under the master", 2, x.look(0, 13));
        EXPECT.same("master of a master", 0, x.look(0, 15));
        EXPECT.same("master of depth 3", 0, x.look(2, 15));
        EXPECT.same("under a leaf", 0, x.look(2, 13));
    }

    private static void differences() {
        BillMatch x = new BillMatch();
        tree(x);
        EXPECT.same("less than those directly under it", -610, x.look(0, 7));
        EXPECT.same("a leaf", 0, x.look(2, 7));
        x.line(0, 610, 1);
        EXPECT.same("they agree", 0, x.look(0, 7));
        x.line(3, 10, 0);
        EXPECT.same("by one more house", -10, x.look(0, 7));
    }

    private static void shortAndOver() {
        BillMatch x = new BillMatch();
        x.bill(0, 1, NONE);
        x.box(0, 1, 5);
        x.on(0, 0);
        x.line(0, 100, 1);
        int[][] due = {{0, 100, 0}, {100, 0, 0}, {100, 0, 1}, {100, 1, 0}};
        for (int step = 0; step < due.length; step++) {
            if (step == 1) {
                x.land(0, 100);
            }
            if (step == 2) {
                x.amend(0, 0, 99);
            }
            if (step == 3) {
                x.amend(0, 0, 101);
            }
            for (int i = 0; i < 3; i++) {
                EXPECT.same("step " + step + " what " + (8 + i), due[step][i], x.look(0, 8 + i));
            }
        }
    }

    private static void wrongInputs() {
        Class<?> outside = IndexOutOfBoundsException.class;
        EXPECT.thrown("bill -1", LookTest::tree, outside, x -> x.look(-1, 0));
        EXPECT.thrown("bill 4", LookTest::tree, outside, x -> x.look(4, 0));
        EXPECT.thrown("bill 60", LookTest::tree, outside, x -> x.look(60, 0));
        EXPECT.thrown("what -1", LookTest::tree, outside, x -> x.look(0, -1));
        EXPECT.thrown("what 16", LookTest::tree, outside, x -> x.look(0, 16));
    }
}
