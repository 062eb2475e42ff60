/** Promise 11: split. */
public final class SplitTest {
    private static final int NONE = BillMatch.NONE;
    private static final Expect EXPECT = new Expect("promise 11");

    public static void main(String[] args) {
        house();
        latestLinesFirst();
        freeNumbers();
        refusals();
        wrongInputs();
        fullOfBills();
        fullOfLines();
        EXPECT.end();
    }

    /** Bill 0 is a master, bill 1 stands under it; lines of both come in turns. */
    private static void tree(BillMatch x) {
        x.bill(2, 50, NONE);
        x.bill(2, 60, 0);
        x.title(1, 0, 3);
        x.line(1, 100, 1);
        x.line(0, 900, 9);
        x.line(1, 200, 2);
        x.line(1, 30, 3);
    }

    private static void house() {
        BillMatch x = new BillMatch();
        tree(x);
        EXPECT.same("the new bill", 2, x.split(1, 329));
        int[] due = {2, 61, 0, 2, 1, 329, 0, 0, 0, 329, 0, 3, 0, 0, 0, 0};
        for (int what = 0; what < due.length; what++) {
            EXPECT.same("new bill, what " + what, due[what], x.look(2, what));
        }
        EXPECT.same("what is left", 1, x.look(1, 5));
        EXPECT.same("pieces stay", 6, x.look(1, 6));
        EXPECT.same("lines stay", 3, x.look(1, 4));
        EXPECT.same("the master's weight stays", 900, x.look(0, 5));
        EXPECT.same("the master's sum stays", 570, x.look(0, 7));
        EXPECT.same("houses", 2, x.look(0, 13));
        EXPECT.same("bills", 3, x.count(0));
        EXPECT.same("lines", 5, x.count(2));
        EXPECT.same("the new bill may be split", 3, x.split(2, 1));
        EXPECT.same("with its next number", 62, x.look(3, 1));
        EXPECT.same("without a penalty", 0, x.count(3));
    }

    /** How much each line has left is seen by what its amendment costs. */
    private static void latestLinesFirst() {
        BillMatch x = new BillMatch();
        x.bill(0, 1, NONE);
        x.line(0, 100, 1);
        x.line(0, 2000, 1);
        x.line(0, 3000, 1);
        x.arrive(0);
        EXPECT.same("a master's split is a master", 1, x.split(0, 3500));
        EXPECT.same("above", NONE, x.look(1, 2));
        EXPECT.same("its master", 1, x.look(1, 15));
        EXPECT.same("depth", 1, x.look(1, 3));
        EXPECT.same("the last one has nothing", 0, x.amend(0, 2, 0));
        EXPECT.same("the second one has 1500", 0, x.amend(0, 1, 1500));
        EXPECT.same("the first one has all", 0, x.amend(0, 0, 100));
        EXPECT.same("the new one", 0, x.amend(1, 0, 3500));
        EXPECT.same("a split over an empty line", 2, x.split(0, 1));
        EXPECT.same("is taken before it", 0, x.amend(0, 1, 1499));
    }

    private static void freeNumbers() {
        BillMatch x = new BillMatch();
        x.bill(0, 10, NONE);
        x.bill(0, 11, NONE);
        x.bill(0, 12, 1);
        x.bill(0, 14, NONE);
        x.bill(1, 13, NONE);
        x.line(0, 100, 1);
        EXPECT.same("split", 5, x.split(0, 10));
        EXPECT.same("next free number", 13, x.look(5, 1));
        EXPECT.same("split again", 6, x.split(0, 10));
        EXPECT.same("next free number then", 15, x.look(6, 1));
        x.bill(0, 99999998, NONE);
        x.line(7, 10, 1);
        EXPECT.same("split before the last number", 8, x.split(7, 1));
        EXPECT.same("the last number", 99999999, x.look(8, 1));
    }

    private static void edge(BillMatch x) {
        x.bill(0, 99999997, NONE);
        x.bill(0, 99999998, NONE);
        x.bill(0, 99999999, NONE);
        x.line(0, 10, 1);
        x.line(2, 10, 1);
    }

    private static void ordered(BillMatch x) {
        tree(x);
        x.box(2, 1, 1);
        x.on(0, 1);
        x.land(0, 1);
        x.order(1, 0, 3);
    }

    private static void refusals() {
        EXPECT.refused("all of it", SplitTest::tree, NONE, x -> x.split(1, 330));
        EXPECT.refused("more than it has", SplitTest::tree, NONE, x -> x.split(1, 331));
        EXPECT.refused("far more", SplitTest::tree, NONE, x -> x.split(1, Integer.MAX_VALUE));
        EXPECT.refused("others stand under it", SplitTest::tree, NONE, x -> x.split(0, 1));
        EXPECT.refused("an order was given", SplitTest::ordered, NONE, x -> x.split(1, 1));
        EXPECT.refused("no number above", SplitTest::edge, NONE, x -> x.split(2, 1));
        EXPECT.refused("no free number above", SplitTest::edge, NONE, x -> x.split(0, 1));
        EXPECT.refused("without lines", SplitTest::edge, NONE, x -> x.split(1, 1));
    }

    private static void wrongInputs() {
        Class<?> illegal = IllegalArgumentException.class;
        EXPECT.thrown("bill -1", SplitTest::tree, illegal, x -> x.split(-1, 1));
        EXPECT.thrown("bill 2", SplitTest::tree, illegal, x -> x.split(2, 1));
        EXPECT.thrown("bill 60", SplitTest::tree, illegal, x -> x.split(60, 1));
        EXPECT.thrown("0 kilograms", SplitTest::tree, illegal, x -> x.split(1, 0));
        EXPECT.thrown("0 kilograms of one with others", SplitTest::tree, illegal, x -> x.split(0, 0));
        EXPECT.thrown("least", SplitTest::tree, illegal, x -> x.split(1, Integer.MIN_VALUE));
    }

    private static void fullOfBills() {
        BillMatch x = new BillMatch();
        x.bill(0, 0, NONE);
        x.line(0, 1000, 1);
        for (int bill = 1; bill < 60; bill++) {
            EXPECT.same("split " + bill, bill, x.split(0, 1));
            EXPECT.same("number " + bill, bill, x.look(bill, 1));
        }
        EXPECT.fails("61st bill", IllegalStateException.class, () -> x.split(0, 1));
        EXPECT.fails("61st bill that can't be", IllegalStateException.class, () -> x.split(0, 5000));
        EXPECT.fails("61st bill of none", IllegalArgumentException.class, () -> x.split(60, 1));
        EXPECT.same("what is left", 941, x.look(0, 5));
    }

    private static void fullOfLines() {
        BillMatch x = new BillMatch();
        x.bill(0, 0, NONE);
        for (int line = 0; line < 199; line++) {
            x.line(0, 1000000, 1);
        }
        EXPECT.same("the 200th line, more than a line may be told", 1, x.split(0, 150000000));
        EXPECT.same("its weight", 150000000, x.look(1, 5));
        EXPECT.same("what is left", 49000000, x.look(0, 5));
        EXPECT.fails("201st line", IllegalStateException.class, () -> x.split(0, 1));
        EXPECT.fails("201st line that can't be", IllegalStateException.class, () -> x.split(0, 999999999));
        EXPECT.fails("0 kilograms", IllegalArgumentException.class, () -> x.split(0, 0));
        EXPECT.same("lines", 200, x.count(2));
    }
}
