/** Promise 8: amend. */
public final class AmendTest {
    private static final int NONE = BillMatch.NONE;
    private static final Expect EXPECT = new Expect("promise 8");

    public static void main(String[] args) {
        beforeArrival();
        behindArrival();
        wrongInputs();
        EXPECT.end();
    }

    private static void two(BillMatch x) {
        x.bill(0, 1, NONE);
        x.bill(1, 1, NONE);
        x.line(0, 5000, 3);
        x.line(1, 100, 1);
        x.line(0, 700, 2);
        x.arrive(0);
    }

    private static void beforeArrival() {
        BillMatch x = new BillMatch();
        two(x);
        EXPECT.same("the other call has not arrived", 0, x.amend(1, 0, 900000));
        EXPECT.same("own weight", 900000, x.look(1, 5));
        EXPECT.same("penalties", 0, x.count(3));
    }

    private static void behindArrival() {
        BillMatch x = new BillMatch();
        two(x);
        EXPECT.same("nothing changes", 0, x.amend(0, 0, 5000));
        EXPECT.same("999 more", 100, x.amend(0, 0, 5999));
        EXPECT.same("1000 less", 101, x.amend(0, 0, 4999));
        EXPECT.same("1 less", 100, x.amend(0, 0, 4998));
        EXPECT.same("second line, most", 1099, x.amend(0, 1, 1000000));
        EXPECT.same("second line, least", 1100, x.amend(0, 1, 0));
        EXPECT.same("own weight", 4998, x.look(0, 5));
        EXPECT.same("pieces stay", 5, x.look(0, 6));
        EXPECT.same("lines stay", 2, x.look(0, 4));
        EXPECT.same("the other bill stays", 100, x.look(1, 5));
        EXPECT.same("penalties", 2500, x.count(3));
    }

    private static void wrongInputs() {
        Class<?> illegal = IllegalArgumentException.class;
        EXPECT.thrown("bill -1", AmendTest::two, illegal, x -> x.amend(-1, 0, 1));
        EXPECT.thrown("bill 2", AmendTest::two, illegal, x -> x.amend(2, 0, 1));
        EXPECT.thrown("bill 60", AmendTest::two, illegal, x -> x.amend(60, 0, 1));
        EXPECT.thrown("line -1", AmendTest::two, illegal, x -> x.amend(0, -1, 1));
        EXPECT.thrown("line 2", AmendTest::two, illegal, x -> x.amend(0, 2, 1));
        EXPECT.thrown("line 1 of the other bill", AmendTest::two, illegal, x -> x.amend(1, 1, 1));
        EXPECT.thrown("weight -1", AmendTest::two, illegal, x -> x.amend(0, 0, -1));
        EXPECT.thrown("weight 1000001", AmendTest::two, illegal, x -> x.amend(0, 0, 1000001));
    }
}
