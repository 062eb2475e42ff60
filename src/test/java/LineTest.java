/** Promise 3: line. */
public final class LineTest {
    private static final int NONE = BillMatch.NONE;
    private static final Class<?> ILLEGAL = IllegalArgumentException.class;
    private static final Class<?> FULL = IllegalStateException.class;
    private static final Expect EXPECT = new Expect("promise 3");

    public static void main(String[] args) {
        EXPECT.sentence("One more line of a bill: which it is of the bill, 0, 1, ..", LineTest::whichItIs);
        EXPECT.sentence("IllegalArgumentException if there is no such bill", LineTest::noSuchBill);
        EXPECT.sentence("numbers can't be: a weight 0 .. 1000000", LineTest::weightCanNotBe);
        EXPECT.sentence("numbers can't be: pieces 0 .. 10000", LineTest::piecesCanNotBe);
        EXPECT.sentence("IllegalStateException if there are 200", LineTest::thereAreTwoHundred);
        EXPECT.sentence("IllegalStateException if there are 200", LineTest::twoHundredBySplits);
        EXPECT.sentence("Of several exceptions the one told first is thrown.", LineTest::severalExceptions);
        EXPECT.end();
    }

    private static void two(BillMatch x) {
        x.bill(0, 1, NONE);
        x.bill(1, 1, NONE);
        x.line(0, 10, 3);
    }

    private static void whichItIs() {
        BillMatch x = new BillMatch();
        two(x);
        EXPECT.same("first of the second bill", 0, x.line(1, 7, 1));
        EXPECT.same("second of the first bill", 1, x.line(0, 1000000, 10000));
        EXPECT.same("third of the first bill", 2, x.line(0, 0, 0));
        EXPECT.same("lines of 0", 3, x.look(0, 4));
        EXPECT.same("own weight of 0", 1000010, x.look(0, 5));
        EXPECT.same("pieces of 0", 10003, x.look(0, 6));
        EXPECT.same("lines of 1", 1, x.look(1, 4));
        EXPECT.same("own weight of 1", 7, x.look(1, 5));
        EXPECT.same("pieces of 1", 1, x.look(1, 6));
        EXPECT.same("lines in all", 4, x.count(2));
    }

    private static void noSuchBill() {
        int[] none = {-1, 2, 3, 59, 60, Integer.MAX_VALUE, Integer.MIN_VALUE};
        for (int bill : none) {
            EXPECT.thrown("bill " + bill, LineTest::two, ILLEGAL, x -> x.line(bill, 1, 1));
        }
        EXPECT.thrown("of none at all", Given::nothing, ILLEGAL, x -> x.line(0, 1, 1));
        EXPECT.answers("of the last one", LineTest::two, 0, x -> x.line(1, 1, 1));
    }

    private static void weightCanNotBe() {
        int[] none = {-1, 1000001, Integer.MAX_VALUE, Integer.MIN_VALUE};
        for (int weight : none) {
            EXPECT.thrown("weight " + weight, LineTest::two, ILLEGAL, x -> x.line(0, weight, 1));
        }
        EXPECT.answers("the least one", LineTest::two, 1, x -> x.line(0, 0, 1));
        EXPECT.answers("the largest one", LineTest::two, 1, x -> x.line(0, 1000000, 1));
    }

    private static void piecesCanNotBe() {
        int[] none = {-1, 10001, Integer.MAX_VALUE, Integer.MIN_VALUE};
        for (int pieces : none) {
            EXPECT.thrown("pieces " + pieces, LineTest::two, ILLEGAL, x -> x.line(0, 1, pieces));
        }
        EXPECT.answers("the least ones", LineTest::two, 1, x -> x.line(0, 1, 0));
        EXPECT.answers("the largest ones", LineTest::two, 1, x -> x.line(0, 1, 10000));
    }

    private static void twoHundredOfTwo(BillMatch x) {
        x.bill(0, 1, NONE);
        x.bill(0, 2, NONE);
        x.bill(0, 3, NONE);
        for (int line = 0; line < 200; line++) {
            x.line(line % 2, 1000000, 10000);
        }
    }

    private static void thereAreTwoHundred() {
        BillMatch x = new BillMatch();
        x.bill(0, 1, NONE);
        x.bill(0, 2, NONE);
        for (int line = 0; line < 200; line++) {
            EXPECT.same("line " + line, line / 2, x.line(line % 2, 1000000, 10000));
        }
        EXPECT.same("lines", 200, x.count(2));
        EXPECT.same("own weight", 100000000, x.look(0, 5));
        EXPECT.same("pieces", 1000000, x.look(1, 6));
        EXPECT.thrown("a 201st", LineTest::twoHundredOfTwo, FULL, y -> y.line(0, 1, 1));
        EXPECT.thrown("a 201st that weighs nothing", LineTest::twoHundredOfTwo, FULL, y -> y.line(0, 0, 0));
        EXPECT.thrown("the first one of a bill", LineTest::twoHundredOfTwo, FULL, y -> y.line(2, 1, 1));
        EXPECT.thrown("one more of a full object", Given::full, FULL, y -> y.line(59, 1, 1));
    }

    private static void oneHundredNinetyNineAndASplit(BillMatch x) {
        x.bill(0, 1, NONE);
        for (int line = 0; line < 199; line++) {
            x.line(0, 5, 1);
        }
        x.split(0, 7);
    }

    private static void twoHundredBySplits() {
        EXPECT.answers("a split makes the 200th", LineTest::oneHundredNinetyNineAndASplit, 200, x -> x.count(2));
        EXPECT.thrown("a 201st", LineTest::oneHundredNinetyNineAndASplit, FULL, x -> x.line(0, 1, 1));
    }

    private static void severalExceptions() {
        EXPECT.thrown("no such bill, and 200", LineTest::twoHundredOfTwo, ILLEGAL, x -> x.line(3, 1, 1));
        EXPECT.thrown("no such weight, and 200", LineTest::twoHundredOfTwo, ILLEGAL, x -> x.line(0, 1000001, 1));
        EXPECT.thrown("no such pieces, and 200", LineTest::twoHundredOfTwo, ILLEGAL, x -> x.line(0, 1, 10001));
    }
}
