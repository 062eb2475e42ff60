/** Promise 13: look. */
public final class LookTest {
    private static final int NONE = BillMatch.NONE;
    private static final Class<?> OUTSIDE = IndexOutOfBoundsException.class;
    private static final Expect EXPECT = new Expect("promise 13");

    public static void main(String[] args) {
        EXPECT.sentence("Of a bill: what 0: call .. 15: the master of its tree", LookTest::all);
        EXPECT.sentence("Of a bill on which nothing was done", LookTest::bare);
        EXPECT.sentence("2: the one above, NONE without", LookTest::above);
        EXPECT.sentence("3: depth", LookTest::depth);
        EXPECT.sentence("7: by how much it DIFFERS", LookTest::differences);
        EXPECT.sentence("9: SHORT, 10: OVER", LookTest::shortAndOver);
        EXPECT.sentence("12: orders given", LookTest::orders);
        EXPECT.sentence("13: bills directly under it", LookTest::directlyUnder);
        EXPECT.sentence("15: the master of its tree", LookTest::masters);
        EXPECT.sentence("IndexOutOfBoundsException if there is no such bill", LookTest::noSuchBill);
        EXPECT.sentence("IndexOutOfBoundsException if there is no such .. what", LookTest::noSuchWhat);
        EXPECT.end();
    }

    private static void tree(BillMatch x) {
        x.bill(1, 40, NONE);
        x.bill(1, 30, 0);
        x.bill(1, 20, 1);
        x.bill(1, 10, 0);
        x.line(1, 600, 6);
        x.line(1, 10, 1);
        x.line(2, 111, 4);
        x.box(1, 5, 70);
        x.box(1, 6, 80);
        x.box(1, 7, 90);
        x.on(0, 1);
        x.on(1, 1);
        x.on(1, 3);
        x.land(0, 65);
        x.land(1, 81);
        x.title(1, 0, 8);
        x.order(1, 0, 8);
    }

    private static void all() {
        BillMatch x = new BillMatch();
        tree(x);
        int[] due = {1, 30, 0, 2, 2, 610, 7, 499, 106, 504, 0, 8, 1, 1, 2, 0};
        for (int what = 0; what < due.length; what++) {
            EXPECT.same("what " + what, due[what], x.look(1, what));
        }
    }

    private static void bare() {
        BillMatch x = new BillMatch();
        x.bill(2, 99999999, NONE);
        int[] due = {2, 99999999, NONE, 1, 0, 0, 0, 0, 0, 0, 0, 0, 0, 0, 0, 0};
        for (int what = 0; what < due.length; what++) {
            EXPECT.same("what " + what, due[what], x.look(0, what));
        }
    }

    private static void above() {
        int[] due = {NONE, 0, 1, 2};
        for (int i = 0; i < 4; i++) {
            int bill = i;
            EXPECT.answers("above " + bill, Given::chain, due[i], x -> x.look(bill, 2));
        }
    }

    private static void depth() {
        for (int i = 0; i < 4; i++) {
            int bill = i;
            EXPECT.answers("depth of " + bill, Given::chain, bill + 1, x -> x.look(bill, 3));
        }
    }

    private static void differences() {
        BillMatch x = new BillMatch();
        tree(x);
        EXPECT.same("less than those directly under it", -610, x.look(0, 7));
        EXPECT.same("a leaf", 0, x.look(2, 7));
        x.line(0, 610, 1);
        EXPECT.same("they agree", 0, x.look(0, 7));
        x.line(3, 10, 0);
        EXPECT.same("by one more house", -10, x.look(0, 7));
        x.line(0, 11, 1);
        EXPECT.same("more than those directly under it", 1, x.look(0, 7));
    }

    private static void shortAndOver() {
        BillMatch x = new BillMatch();
        x.bill(0, 1, NONE);
        x.box(0, 1, 5);
        x.on(0, 0);
        x.line(0, 100, 1);
        int[] landed = {0, 100, 100, 100, 100, 100};
        int[] amended = {100, 100, 99, 101, 0, 1000000};
        int[] isShort = {100, 0, 0, 1, 0, 999900};
        int[] isOver = {0, 0, 1, 0, 100, 0};
        for (int step = 0; step < landed.length; step++) {
            if (step == 1) {
                x.land(0, 100);
            }
            x.amend(0, 0, amended[step]);
            EXPECT.same("landed at step " + step, landed[step], x.look(0, 8));
            EXPECT.same("short at step " + step, isShort[step], x.look(0, 9));
            EXPECT.same("over at step " + step, isOver[step], x.look(0, 10));
        }
    }

    private static void orders() {
        BillMatch x = new BillMatch();
        x.bill(0, 1, NONE);
        for (int box = 0; box < 60; box++) {
            x.box(0, box, 1);
            x.on(box, 0);
            x.land(box, 1);
            EXPECT.same("orders before", box, x.look(0, 12));
            x.order(0, box, 0);
        }
        EXPECT.same("all", 60, x.look(0, 12));
    }

    private static void directlyUnder() {
        int[] due = {2, 1, 0, 0};
        for (int i = 0; i < due.length; i++) {
            int bill = i;
            EXPECT.answers("under " + bill, LookTest::tree, due[i], x -> x.look(bill, 13));
        }
        EXPECT.answers("under one of a full object", Given::full, 57, x -> x.look(2, 13));
    }

    private static void masters() {
        for (int i = 0; i < 4; i++) {
            int bill = i;
            EXPECT.answers("master of " + bill, Given::chain, 0, x -> x.look(bill, 15));
        }
        EXPECT.answers("a second tree", x -> {
            Given.chain(x);
            x.bill(0, 20, NONE);
            x.bill(0, 21, 4);
        }, 4, x -> x.look(5, 15));
        EXPECT.answers("of the last one of a full object", Given::full, 0, x -> x.look(59, 15));
        EXPECT.answers("sixty masters", Given::sixtyBills, 59, x -> x.look(59, 15));
    }

    private static void noSuchBill() {
        int[] none = {-1, 4, 5, 59, 60, Integer.MAX_VALUE, Integer.MIN_VALUE};
        for (int bill : none) {
            EXPECT.thrown("bill " + bill, LookTest::tree, OUTSIDE, x -> x.look(bill, 0));
            EXPECT.thrown("bill " + bill + ", no what", LookTest::tree, OUTSIDE, x -> x.look(bill, 16));
        }
        EXPECT.thrown("bill 60 of 60", Given::sixtyBills, OUTSIDE, x -> x.look(60, 0));
        EXPECT.answers("the last one of 60", Given::sixtyBills, 59, x -> x.look(59, 1));
    }

    private static void noSuchWhat() {
        int[] none = {-1, 16, 17, Integer.MAX_VALUE, Integer.MIN_VALUE};
        for (int what : none) {
            EXPECT.thrown("what " + what, LookTest::tree, OUTSIDE, x -> x.look(0, what));
        }
    }
}
