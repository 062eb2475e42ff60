/** Promise 8: amend. */
public final class AmendTest {
    private static final int NONE = BillMatch.NONE;
    private static final Class<?> ILLEGAL = IllegalArgumentException.class;
    private static final Expect EXPECT = new Expect("promise 8");

    public static void main(String[] args) {
        EXPECT.sentence("a line's weight is told anew", AmendTest::toldAnew);
        EXPECT.sentence("behind the call's ARRIVAL .. 0 without", AmendTest::beforeArrival);
        EXPECT.sentence("each one that changes it costs a PENALTY", AmendTest::nothingChanges);
        EXPECT.sentence("100, and 1 for each whole 1000 kilograms of difference", AmendTest::penalties);
        EXPECT.sentence("IllegalArgumentException if there is no such bill", AmendTest::noSuchBill);
        EXPECT.sentence("IllegalArgumentException if there is no such .. line", AmendTest::noSuchLine);
        EXPECT.sentence("IllegalArgumentException if .. the weight can't be", AmendTest::weightCanNotBe);
        EXPECT.sentence("200 lines at most in all", AmendTest::lastLine);
        EXPECT.end();
    }

    /** Two lines of bill 0 of call 0, which has arrived, and one of bill 1 of call 1, which has not. */
    private static void two(BillMatch x) {
        x.bill(0, 1, NONE);
        x.bill(1, 1, NONE);
        x.line(0, 5000, 3);
        x.line(1, 100, 1);
        x.line(0, 700, 2);
        x.arrive(0);
    }

    private static void toldAnew() {
        BillMatch x = new BillMatch();
        two(x);
        x.amend(0, 1, 4);
        EXPECT.same("own weight", 5004, x.look(0, 5));
        EXPECT.same("pieces stay", 5, x.look(0, 6));
        EXPECT.same("lines stay", 2, x.look(0, 4));
        EXPECT.same("the other bill stays", 100, x.look(1, 5));
        EXPECT.same("the other line stays", 5000, Picture.weightOfLine(x, 0, 0));
        EXPECT.same("the line itself", 4, Picture.weightOfLine(x, 0, 1));
    }

    private static void beforeArrival() {
        BillMatch x = new BillMatch();
        two(x);
        EXPECT.same("another call has arrived", 0, x.amend(1, 0, 900000));
        EXPECT.same("own weight", 900000, x.look(1, 5));
        EXPECT.same("no penalties", 0, x.count(3));
        x.arrive(1);
        EXPECT.same("it costs nothing afterwards", 0, x.count(3));
        EXPECT.same("behind the arrival", 100, x.amend(1, 0, 900001));
        EXPECT.same("penalties", 100, x.count(3));
    }

    private static void nothingChanges() {
        EXPECT.refused("the weight it has", AmendTest::two, 0, x -> x.amend(0, 0, 5000));
        EXPECT.answers("back to what it was", x -> {
            two(x);
            x.amend(0, 0, 4999);
        }, 100, x -> x.amend(0, 0, 5000));
    }

    private static void penalties() {
        BillMatch x = new BillMatch();
        two(x);
        int[] weights = {4999, 5000, 5999, 4999, 3998, 5997, 7997, 1000000, 0, 999, 1999, 0, 1000000, 0, 999999};
        int[] due = {100, 100, 100, 101, 101, 101, 102, 1092, 1100, 100, 101, 101, 1100, 1100, 1099};
        int sum = 0;
        for (int i = 0; i < due.length; i++) {
            EXPECT.same("then to " + weights[i], due[i], x.amend(0, 0, weights[i]));
            sum += due[i];
            EXPECT.same("penalties in all", sum, x.count(3));
        }
        EXPECT.same("another line", 101, x.amend(0, 1, 1700));
    }

    private static void noSuchBill() {
        int[] none = {-1, 2, 3, 59, 60, Integer.MAX_VALUE, Integer.MIN_VALUE};
        for (int bill : none) {
            EXPECT.thrown("bill " + bill, AmendTest::two, ILLEGAL, x -> x.amend(bill, 0, 1));
        }
    }

    private static void noSuchLine() {
        int[] none = {-1, 2, 3, 199, 200, Integer.MAX_VALUE, Integer.MIN_VALUE};
        for (int line : none) {
            EXPECT.thrown("line " + line, AmendTest::two, ILLEGAL, x -> x.amend(0, line, 1));
        }
        EXPECT.thrown("one that another bill has", AmendTest::two, ILLEGAL, x -> x.amend(1, 1, 1));
        EXPECT.thrown("of a bill without lines", x -> x.bill(0, 1, NONE), ILLEGAL, x -> x.amend(0, 0, 1));
        EXPECT.answers("the last one", AmendTest::two, 100, x -> x.amend(0, 1, 1));
    }

    private static void weightCanNotBe() {
        int[] none = {-1, 1000001, Integer.MAX_VALUE, Integer.MIN_VALUE};
        for (int weight : none) {
            EXPECT.thrown("weight " + weight, AmendTest::two, ILLEGAL, x -> x.amend(0, 0, weight));
        }
        EXPECT.answers("the least one", AmendTest::two, 105, x -> x.amend(0, 0, 0));
        EXPECT.answers("the largest one", AmendTest::two, 1095, x -> x.amend(0, 0, 1000000));
    }

    private static void twoHundredOfOne(BillMatch x) {
        x.bill(0, 1, NONE);
        Given.twoHundredLines(x);
        x.arrive(0);
    }

    private static void lastLine() {
        EXPECT.answers("line 199", AmendTest::twoHundredOfOne, 100, x -> x.amend(0, 199, 0));
        EXPECT.thrown("line 200", AmendTest::twoHundredOfOne, ILLEGAL, x -> x.amend(0, 200, 0));
        EXPECT.answers("of a full object", Given::full, 0, x -> x.amend(59, 2, 0));
        EXPECT.thrown("one more of it", Given::full, ILLEGAL, x -> x.amend(59, 3, 0));
    }
}
