/** Promise 2: bill. */
public final class BillTest {
    private static final int NONE = BillMatch.NONE;
    private static final Expect EXPECT = new Expect("promise 2");

    public static void main(String[] args) {
        trees();
        numbers();
        wrongInputs();
        refusals();
        full();
        EXPECT.end();
    }

    private static void chain(BillMatch x) {
        x.bill(0, 10, NONE);
        x.bill(0, 11, 0);
        x.bill(0, 12, 1);
        x.bill(0, 13, 2);
    }

    private static void trees() {
        BillMatch x = new BillMatch();
        EXPECT.same("first master", 0, x.bill(3, 5, NONE));
        EXPECT.same("house", 1, x.bill(3, 6, 0));
        EXPECT.same("second master", 2, x.bill(3, 7, NONE));
        EXPECT.same("house of a house", 3, x.bill(3, 4, 1));
        int[][] due = {{3, 5, NONE, 1, 0}, {3, 6, 0, 2, 0}, {3, 7, NONE, 1, 2}, {3, 4, 1, 3, 0}};
        int[] whats = {0, 1, 2, 3, 15};
        for (int bill = 0; bill < due.length; bill++) {
            for (int i = 0; i < whats.length; i++) {
                EXPECT.same("bill " + bill + " what " + whats[i], due[bill][i], x.look(bill, whats[i]));
            }
            EXPECT.same("holder of " + bill, 0, x.look(bill, 11));
            EXPECT.same("lines of " + bill, 0, x.look(bill, 4));
        }
        EXPECT.same("bills", 4, x.count(0));
    }

    private static void numbers() {
        BillMatch x = new BillMatch();
        EXPECT.same("least number", 0, x.bill(0, 0, NONE));
        EXPECT.same("greatest number", 1, x.bill(0, 99999999, NONE));
        EXPECT.same("the number in another call", 2, x.bill(1, 0, NONE));
    }

    private static void wrongInputs() {
        Class<?> illegal = IllegalArgumentException.class;
        EXPECT.thrown("call -1", BillTest::chain, illegal, x -> x.bill(-1, 1, NONE));
        EXPECT.thrown("call 4", BillTest::chain, illegal, x -> x.bill(4, 1, NONE));
        EXPECT.thrown("number -1", BillTest::chain, illegal, x -> x.bill(0, -1, NONE));
        EXPECT.thrown("number too great", BillTest::chain, illegal, x -> x.bill(0, 100000000, NONE));
    }

    private static void ordered(BillMatch x) {
        x.bill(0, 10, NONE);
        x.box(0, 1, 5);
        x.on(0, 0);
        x.land(0, 5);
        x.order(0, 0, 0);
    }

    private static void refusals() {
        EXPECT.refused("above -2", BillTest::chain, NONE, x -> x.bill(0, 1, -2));
        EXPECT.refused("above not there", BillTest::chain, NONE, x -> x.bill(0, 1, 4));
        EXPECT.refused("above greatest", BillTest::chain, NONE, x -> x.bill(0, 1, Integer.MAX_VALUE));
        EXPECT.refused("above least", BillTest::chain, NONE, x -> x.bill(0, 1, Integer.MIN_VALUE));
        EXPECT.refused("above of another call", BillTest::chain, NONE, x -> x.bill(1, 1, 0));
        EXPECT.refused("above of depth 4", BillTest::chain, NONE, x -> x.bill(0, 1, 3));
        EXPECT.refused("above was ordered", BillTest::ordered, NONE, x -> x.bill(0, 1, 0));
        EXPECT.refused("number of bill 0 taken", BillTest::chain, NONE, x -> x.bill(0, 10, NONE));
        EXPECT.refused("number taken, master", BillTest::chain, NONE, x -> x.bill(0, 12, NONE));
        EXPECT.refused("number taken, house", BillTest::chain, NONE, x -> x.bill(0, 12, 0));
        BillMatch x = new BillMatch();
        chain(x);
        EXPECT.same("depth 4 may be", 4, x.look(3, 3));
        BillMatch y = new BillMatch();
        ordered(y);
        EXPECT.same("a master beside an ordered one", 1, y.bill(0, 11, NONE));
    }

    private static void full() {
        BillMatch x = new BillMatch();
        for (int bill = 0; bill < 60; bill++) {
            EXPECT.same("bill " + bill, bill, x.bill(bill % 4, bill, NONE));
        }
        EXPECT.fails("61st", IllegalStateException.class, () -> x.bill(0, 1000, NONE));
        EXPECT.fails("61st, number taken", IllegalStateException.class, () -> x.bill(0, 0, NONE));
        EXPECT.fails("61st, above not there", IllegalStateException.class, () -> x.bill(0, 1000, 77));
        EXPECT.fails("61st, no such call", IllegalArgumentException.class, () -> x.bill(4, 1000, NONE));
        EXPECT.same("bills", 60, x.count(0));
    }
}
