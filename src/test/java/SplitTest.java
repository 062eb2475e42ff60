/** Promise 11: split. */
public final class SplitTest {
    private static final int NONE = BillMatch.NONE;
    private static final Class<?> ILLEGAL = IllegalArgumentException.class;
    private static final Class<?> FULL = IllegalStateException.class;
    private static final Expect EXPECT = new Expect("promise 11");

    public static void main(String[] args) {
        EXPECT.sentence("into a new bill under the same one", SplitTest::underTheSameOne);
        EXPECT.sentence("(a master, if it was one)", SplitTest::masters);
        EXPECT.sentence("depth 4 at most", SplitTest::ofDepthFour);
        EXPECT.sentence("takes some kilograms from a bill's lines, the latest ones first", SplitTest::latestFirst);
        EXPECT.sentence("with the next free number above its own in the call", SplitTest::freeNumbers);
        EXPECT.sentence("with the next free number above its own in the call", SplitTest::noFreeNumber);
        EXPECT.sentence("one line of that weight and 0 pieces", SplitTest::oneLine);
        EXPECT.sentence("its holder is the same", SplitTest::holder);
        EXPECT.sentence("Not more than it has, nor all of it", SplitTest::howMuch);
        EXPECT.sentence("not of a bill under which others stand", SplitTest::othersUnder);
        EXPECT.sentence("or for which an order was given", SplitTest::wasOrdered);
        EXPECT.sentence("IllegalArgumentException if there is no such bill", SplitTest::noSuchBill);
        EXPECT.sentence("IllegalArgumentException if .. kilograms are below 1", SplitTest::kilogramsBelowOne);
        EXPECT.sentence("IllegalStateException if there are 60 bills", SplitTest::sixtyBills);
        EXPECT.sentence("IllegalStateException if there are .. 200 lines", SplitTest::twoHundredLines);
        EXPECT.sentence("Of several exceptions the one told first is thrown.", SplitTest::severalExceptions);
        EXPECT.end();
    }

    /** Bill 0 is a master, bill 1 stands under it; lines of both come in turns. */
    private static void tree(BillMatch x) {
        x.bill(2, 50, NONE);
        x.bill(2, 60, 0);
        x.title(1, 0, 3);
        x.line(1, 100, 1);
        x.line(0, 900, 9);
        x.line(1, 200, 2);
        x.line(1, 30, 3);
    }

    private static void underTheSameOne() {
        BillMatch x = new BillMatch();
        tree(x);
        EXPECT.same("the new bill", 2, x.split(1, 329));
        int[] due = {2, 61, 0, 2, 1, 329, 0, 0, 0, 329, 0, 3, 0, 0, 0, 0};
        for (int what = 0; what < due.length; what++) {
            EXPECT.same("new bill, what " + what, due[what], x.look(2, what));
        }
        EXPECT.same("what is left", 1, x.look(1, 5));
        EXPECT.same("pieces stay", 6, x.look(1, 6));
        EXPECT.same("lines stay", 3, x.look(1, 4));
        EXPECT.same("the master's weight stays", 900, x.look(0, 5));
        EXPECT.same("the master's sum stays", 570, x.look(0, 7));
        EXPECT.same("houses", 2, x.look(0, 13));
        EXPECT.same("bills", 3, x.count(0));
        EXPECT.same("lines", 5, x.count(2));
        EXPECT.same("the new bill may be split", 3, x.split(2, 1));
        EXPECT.same("with its next number", 62, x.look(3, 1));
    }

    private static void master(BillMatch x) {
        x.bill(0, 1, NONE);
        x.line(0, 100, 1);
        x.line(0, 2000, 1);
        x.line(0, 3000, 1);
    }

    private static void masters() {
        BillMatch x = new BillMatch();
        master(x);
        EXPECT.same("the new bill", 1, x.split(0, 10));
        EXPECT.same("above", NONE, x.look(1, 2));
        EXPECT.same("its master", 1, x.look(1, 15));
        EXPECT.same("depth", 1, x.look(1, 3));
        EXPECT.same("none stands under the old one", 0, x.look(0, 13));
    }

    private static void deep(BillMatch x) {
        Given.chain(x);
        x.line(3, 9, 1);
    }

    private static void ofDepthFour() {
        BillMatch x = new BillMatch();
        deep(x);
        EXPECT.same("the new bill", 4, x.split(3, 8));
        EXPECT.same("depth", 4, x.look(4, 3));
        EXPECT.same("above", 2, x.look(4, 2));
        EXPECT.same("master", 0, x.look(4, 15));
    }

    private static int[] weightsAfterASplitOf(int weight) {
        BillMatch x = new BillMatch();
        master(x);
        x.split(0, weight);
        int[] weights = new int[3];
        for (int line = 0; line < 3; line++) {
            weights[line] = Picture.weightOfLine(x, 0, line);
        }
        return weights;
    }

    private static void latestFirst() {
        int[] parts = {1, 2999, 3000, 3001, 4999, 5000, 5001, 5099};
        int[][] due = {
            {100, 2000, 2999}, {100, 2000, 1}, {100, 2000, 0}, {100, 1999, 0}, {100, 1, 0}, {100, 0, 0}, {99, 0, 0}, {1, 0, 0}
        };
        for (int i = 0; i < parts.length; i++) {
            int[] weights = weightsAfterASplitOf(parts[i]);
            for (int line = 0; line < 3; line++) {
                EXPECT.same("line " + line + " without " + parts[i], due[i][line], weights[line]);
            }
        }
        BillMatch x = new BillMatch();
        master(x);
        x.arrive(0);
        x.split(0, 3500);
        EXPECT.same("a split over an empty line", 2, x.split(0, 1));
        EXPECT.same("what the second line has then", 1499, Picture.weightOfLine(x, 0, 1));
        BillMatch y = new BillMatch();
        master(y);
        y.arrive(0);
        y.split(0, 3500);
        EXPECT.same("no amendment, no penalty", 0, y.count(3));
    }

    private static void freeNumbers() {
        BillMatch x = new BillMatch();
        x.bill(0, 10, NONE);
        x.bill(0, 11, NONE);
        x.bill(0, 12, 1);
        x.bill(0, 14, NONE);
        x.bill(1, 13, NONE);
        x.box(0, 13, 1);
        x.line(0, 100, 1);
        EXPECT.same("split", 5, x.split(0, 10));
        EXPECT.same("next free number", 13, x.look(5, 1));
        EXPECT.same("split again", 6, x.split(0, 10));
        EXPECT.same("next free number then", 15, x.look(6, 1));
    }

    /** Bills of the largest number and of the two before it; the first and the last one have a line. */
    private static void lastNumbers(BillMatch x) {
        x.bill(0, 99999997, NONE);
        x.bill(0, 99999998, NONE);
        x.bill(0, 99999999, NONE);
        x.line(0, 10, 1);
        x.line(2, 10, 1);
    }

    private static void noFreeNumber() {
        BillMatch x = new BillMatch();
        x.bill(0, 99999998, NONE);
        x.line(0, 10, 1);
        EXPECT.same("before the largest number", 1, x.split(0, 1));
        EXPECT.same("the largest number", 99999999, x.look(1, 1));
        EXPECT.refused("no number above", SplitTest::lastNumbers, NONE, y -> y.split(2, 1));
        EXPECT.refused("no free number above", SplitTest::lastNumbers, NONE, y -> y.split(0, 1));
        BillMatch z = new BillMatch();
        for (int bill = 0; bill < 59; bill++) {
            z.bill(0, bill, NONE);
        }
        z.line(0, 10, 1);
        EXPECT.same("behind 58 that are taken", 59, z.split(0, 1));
        EXPECT.same("the number", 59, z.look(59, 1));
    }

    private static void oneLine() {
        BillMatch x = new BillMatch();
        tree(x);
        x.split(1, 250);
        EXPECT.same("lines", 1, x.look(2, 4));
        EXPECT.same("pieces", 0, x.look(2, 6));
        EXPECT.same("own weight", 250, x.look(2, 5));
        EXPECT.same("the next line is its second", 1, x.line(2, 1, 1));
        EXPECT.same("its line", 250, Picture.weightOfLine(x, 2, 0));
    }

    private static void holder() {
        BillMatch x = new BillMatch();
        tree(x);
        x.split(1, 1);
        EXPECT.same("that of the house", 3, x.look(2, 11));
        x.title(1, 3, 9);
        EXPECT.same("passes alone", 3, x.look(2, 11));
        x.split(1, 1);
        EXPECT.same("the one it has then", 9, x.look(3, 11));
    }

    private static void lightest(BillMatch x) {
        x.bill(0, 5, NONE);
        x.line(0, 1, 1);
        x.bill(0, 7, NONE);
        x.line(1, 0, 1);
        x.bill(0, 9, NONE);
        x.line(2, 2, 1);
        x.bill(0, 11, NONE);
    }

    private static void howMuch() {
        EXPECT.answers("all but one kilogram", SplitTest::tree, 2, x -> x.split(1, 329));
        EXPECT.refused("all of it", SplitTest::tree, NONE, x -> x.split(1, 330));
        EXPECT.refused("one more than it has", SplitTest::tree, NONE, x -> x.split(1, 331));
        EXPECT.refused("far more", SplitTest::tree, NONE, x -> x.split(1, Integer.MAX_VALUE));
        EXPECT.answers("the half of two kilograms", SplitTest::lightest, 4, x -> x.split(2, 1));
        EXPECT.refused("a single kilogram", SplitTest::lightest, NONE, x -> x.split(0, 1));
        EXPECT.refused("of nothing", SplitTest::lightest, NONE, x -> x.split(1, 1));
        EXPECT.refused("without lines", SplitTest::lightest, NONE, x -> x.split(3, 1));
    }

    private static void othersUnder() {
        EXPECT.refused("one stands under it", SplitTest::tree, NONE, x -> x.split(0, 1));
        EXPECT.answers("one stands beside it", SplitTest::tree, 2, x -> x.split(1, 1));
    }

    private static void ordered(BillMatch x) {
        tree(x);
        x.bill(2, 70, 0);
        x.line(2, 50, 1);
        x.box(2, 1, 1);
        x.on(0, 1);
        x.on(0, 2);
        x.land(0, 1);
        x.order(1, 0, 3);
    }

    private static void orderedAbove(BillMatch x) {
        tree(x);
        x.box(2, 1, 1);
        x.on(0, 0);
        x.land(0, 1);
        x.order(0, 0, 0);
    }

    private static void wasOrdered() {
        EXPECT.refused("an order was given", SplitTest::ordered, NONE, x -> x.split(1, 1));
        EXPECT.answers("another bill over the same box", SplitTest::ordered, 3, x -> x.split(2, 1));
        EXPECT.answers("the one above has the order", SplitTest::orderedAbove, 2, x -> x.split(1, 1));
    }

    private static void noSuchBill() {
        int[] none = {-1, 2, 3, 59, 60, Integer.MAX_VALUE, Integer.MIN_VALUE};
        for (int bill : none) {
            EXPECT.thrown("bill " + bill, SplitTest::tree, ILLEGAL, x -> x.split(bill, 1));
        }
    }

    private static void kilogramsBelowOne() {
        int[] none = {0, -1, Integer.MIN_VALUE};
        for (int weight : none) {
            EXPECT.thrown(weight + " kilograms", SplitTest::tree, ILLEGAL, x -> x.split(1, weight));
            EXPECT.thrown(weight + " kilograms, one stands under it", SplitTest::tree, ILLEGAL, x -> x.split(0, weight));
        }
        EXPECT.answers("the least", SplitTest::tree, 2, x -> x.split(1, 1));
    }

    private static void sixty(BillMatch x) {
        Given.sixtyBills(x);
        x.line(0, 100, 1);
    }

    private static void sixtyBills() {
        BillMatch x = new BillMatch();
        x.bill(0, 0, NONE);
        x.line(0, 1000, 1);
        for (int bill = 1; bill < 60; bill++) {
            EXPECT.same("split " + bill, bill, x.split(0, 1));
            EXPECT.same("number " + bill, bill, x.look(bill, 1));
        }
        EXPECT.same("what is left", 941, x.look(0, 5));
        EXPECT.thrown("a 61st bill", SplitTest::sixty, FULL, y -> y.split(0, 1));
        EXPECT.thrown("a 61st bill that can't be", SplitTest::sixty, FULL, y -> y.split(0, 100));
        EXPECT.thrown("a 61st bill without lines", SplitTest::sixty, FULL, y -> y.split(1, 1));
    }

    private static void twoHundred(BillMatch x) {
        x.bill(0, 0, NONE);
        for (int line = 0; line < 200; line++) {
            x.line(0, 1000000, 1);
        }
    }

    private static void twoHundredLines() {
        BillMatch x = new BillMatch();
        x.bill(0, 0, NONE);
        for (int line = 0; line < 199; line++) {
            x.line(0, 1000000, 1);
        }
        EXPECT.same("the 200th line, more than a line may be told", 1, x.split(0, 150000000));
        EXPECT.same("its weight", 150000000, x.look(1, 5));
        EXPECT.same("what is left", 49000000, x.look(0, 5));
        EXPECT.same("lines", 200, x.count(2));
        EXPECT.thrown("a 201st line", SplitTest::twoHundred, FULL, y -> y.split(0, 1));
        EXPECT.thrown("a 201st line that can't be", SplitTest::twoHundred, FULL, y -> y.split(0, 200000000));
        EXPECT.thrown("of a full object", Given::full, FULL, y -> y.split(59, 1));
    }

    private static void severalExceptions() {
        EXPECT.thrown("no such bill, and 60 bills", SplitTest::sixty, ILLEGAL, x -> x.split(60, 1));
        EXPECT.thrown("0 kilograms, and 60 bills", SplitTest::sixty, ILLEGAL, x -> x.split(0, 0));
        EXPECT.thrown("no such bill, and 200 lines", SplitTest::twoHundred, ILLEGAL, x -> x.split(1, 1));
        EXPECT.thrown("0 kilograms, and 200 lines", SplitTest::twoHundred, ILLEGAL, x -> x.split(0, 0));
        EXPECT.thrown("neither, and a full object", Given::full, ILLEGAL, x -> x.split(-1, 0));
    }
}
