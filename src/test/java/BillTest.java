/** Promise 2: bill. */
public final class BillTest {
    private static final int NONE = BillMatch.NONE;
    private static final Class<?> ILLEGAL = IllegalArgumentException.class;
    private static final Class<?> FULL = IllegalStateException.class;
    private static final Expect EXPECT = new Expect("promise 2");

    public static void main(String[] args) {
        EXPECT.sentence("A bill, under another one, or NONE: its number here.", BillTest::trees);
        EXPECT.sentence("IllegalArgumentException if there is no such call", BillTest::noSuchCall);
        EXPECT.sentence("IllegalArgumentException if there is no such .. number", BillTest::noSuchNumber);
        EXPECT.sentence("IllegalStateException if there are 60", BillTest::thereAreSixty);
        EXPECT.sentence("IllegalStateException if there are 60", BillTest::sixtyBySplits);
        EXPECT.sentence("NONE if the other one is not there", BillTest::aboveIsNotThere);
        EXPECT.sentence("NONE if the other one .. is of another call", BillTest::aboveIsOfAnotherCall);
        EXPECT.sentence("NONE if the other one .. has depth 4", BillTest::aboveHasDepthFour);
        EXPECT.sentence("NONE if .. an order was given for it", BillTest::aboveWasOrdered);
        EXPECT.sentence("NONE if .. the number is there in the call", BillTest::numberIsThere);
        EXPECT.sentence("Of several exceptions the one told first is thrown.", BillTest::severalExceptions);
        EXPECT.sentence("IllegalStateException if there are 60; NONE if", BillTest::exceptionBeforeNone);
        EXPECT.end();
    }

    private static void trees() {
        BillMatch x = new BillMatch();
        EXPECT.same("first master", 0, x.bill(3, 5, NONE));
        EXPECT.same("house", 1, x.bill(3, 6, 0));
        EXPECT.same("second master", 2, x.bill(3, 7, NONE));
        EXPECT.same("house of a house", 3, x.bill(3, 4, 1));
        int[][] due = {{3, 5, NONE, 1, 0}, {3, 6, 0, 2, 0}, {3, 7, NONE, 1, 2}, {3, 4, 1, 3, 0}};
        int[] whats = {0, 1, 2, 3, 15};
        for (int bill = 0; bill < due.length; bill++) {
            for (int i = 0; i < whats.length; i++) {
                EXPECT.same("bill " + bill + " what " + whats[i], due[bill][i], x.look(bill, whats[i]));
            }
            EXPECT.same("holder of " + bill, 0, x.look(bill, 11));
            EXPECT.same("lines of " + bill, 0, x.look(bill, 4));
        }
        EXPECT.same("bills", 4, x.count(0));
    }

    private static void noSuchCall() {
        int[] none = {-1, 4, 5, 32, Integer.MAX_VALUE, Integer.MIN_VALUE};
        for (int call : none) {
            EXPECT.thrown("call " + call, Given::chain, ILLEGAL, x -> x.bill(call, 1, NONE));
        }
        EXPECT.answers("the least one", Given::chain, 4, x -> x.bill(0, 1, NONE));
        EXPECT.answers("the largest one", Given::chain, 4, x -> x.bill(3, 1, NONE));
    }

    private static void noSuchNumber() {
        int[] none = {-1, 100000000, Integer.MAX_VALUE, Integer.MIN_VALUE};
        for (int number : none) {
            EXPECT.thrown("number " + number, Given::chain, ILLEGAL, x -> x.bill(0, number, NONE));
        }
        EXPECT.answers("the least one", Given::chain, 4, x -> x.bill(0, 0, NONE));
        EXPECT.answers("the largest one", Given::chain, 4, x -> x.bill(0, 99999999, NONE));
    }

    private static void thereAreSixty() {
        BillMatch x = new BillMatch();
        for (int bill = 0; bill < 60; bill++) {
            EXPECT.same("bill " + bill, bill, x.bill(bill % 4, bill, NONE));
        }
        EXPECT.same("bills", 60, x.count(0));
        EXPECT.thrown("a 61st master", Given::sixtyBills, FULL, y -> y.bill(0, 1000, NONE));
        EXPECT.thrown("a 61st house", Given::sixtyBills, FULL, y -> y.bill(0, 1000, 0));
        EXPECT.thrown("one more of a full object", Given::full, FULL, y -> y.bill(1, 1000, NONE));
    }

    private static void fiftyNineAndASplit(BillMatch x) {
        for (int bill = 0; bill < 59; bill++) {
            x.bill(0, bill, NONE);
        }
        x.line(0, 2, 1);
        x.split(0, 1);
    }

    private static void sixtyBySplits() {
        EXPECT.answers("a split makes the 60th", BillTest::fiftyNineAndASplit, 60, x -> x.count(0));
        EXPECT.thrown("a 61st", BillTest::fiftyNineAndASplit, FULL, x -> x.bill(1, 0, NONE));
    }

    private static void aboveIsNotThere() {
        int[] none = {-2, 4, 5, 59, 60, 64, Integer.MAX_VALUE, Integer.MIN_VALUE};
        for (int above : none) {
            EXPECT.refused("above " + above, Given::chain, NONE, x -> x.bill(0, 1, above));
        }
        EXPECT.refused("above itself, the first one", Given::nothing, NONE, x -> x.bill(0, 1, 0));
        EXPECT.answers("above the first one", Given::chain, 4, x -> x.bill(0, 1, 0));
        EXPECT.answers("above the last one", x -> x.bill(0, 0, NONE), 1, x -> x.bill(0, 1, 0));
    }

    private static void aboveIsOfAnotherCall() {
        for (int i = 1; i < 4; i++) {
            int call = i;
            EXPECT.refused("under one of call 0, of call " + i, Given::chain, NONE, x -> x.bill(call, 1, 0));
        }
        EXPECT.answers("of the same call", Given::chain, 4, x -> x.bill(0, 1, 0));
    }

    private static void aboveHasDepthFour() {
        BillMatch x = new BillMatch();
        Given.chain(x);
        for (int bill = 0; bill < 4; bill++) {
            EXPECT.same("depth of " + bill, bill + 1, x.look(bill, 3));
        }
        EXPECT.refused("a fifth one", Given::chain, NONE, y -> y.bill(0, 1, 3));
        EXPECT.answers("a second one of depth 4", Given::chain, 4, y -> y.bill(0, 1, 2));
    }

    /** Bills 0, 1, 2 under one another; a box on 0 and 1 that bill 1 ordered. */
    private static void ordered(BillMatch x) {
        x.bill(0, 10, NONE);
        x.bill(0, 11, 0);
        x.bill(0, 12, 1);
        x.box(0, 1, 5);
        x.on(0, 0);
        x.on(0, 1);
        x.land(0, 5);
        x.order(1, 0, 0);
    }

    private static void aboveWasOrdered() {
        EXPECT.refused("under the one with the order", BillTest::ordered, NONE, x -> x.bill(0, 1, 1));
        EXPECT.answers("under one over the box without an order", BillTest::ordered, 3, x -> x.bill(0, 1, 0));
        EXPECT.answers("under one that stands under it", BillTest::ordered, 3, x -> x.bill(0, 1, 2));
        EXPECT.answers("a master beside it", BillTest::ordered, 3, x -> x.bill(0, 1, NONE));
    }

    private static void split(BillMatch x) {
        x.bill(0, 10, NONE);
        x.line(0, 2, 1);
        x.split(0, 1);
        x.box(0, 12, 1);
    }

    private static void numberIsThere() {
        EXPECT.refused("that of bill 0", Given::chain, NONE, x -> x.bill(0, 10, NONE));
        EXPECT.refused("that of the last bill", Given::chain, NONE, x -> x.bill(0, 13, NONE));
        EXPECT.refused("for a house", Given::chain, NONE, x -> x.bill(0, 12, 0));
        EXPECT.refused("that of a split", BillTest::split, NONE, x -> x.bill(0, 11, NONE));
        EXPECT.refused("the least one", x -> x.bill(2, 0, NONE), NONE, x -> x.bill(2, 0, NONE));
        EXPECT.refused("the largest one", x -> x.bill(2, 99999999, NONE), NONE, x -> x.bill(2, 99999999, NONE));
        EXPECT.answers("in another call", Given::chain, 4, x -> x.bill(1, 10, NONE));
        EXPECT.answers("that of a box", BillTest::split, 2, x -> x.bill(0, 12, NONE));
    }

    private static void severalExceptions() {
        EXPECT.thrown("no such call, and 60", Given::sixtyBills, ILLEGAL, x -> x.bill(4, 1000, NONE));
        EXPECT.thrown("no such number, and 60", Given::sixtyBills, ILLEGAL, x -> x.bill(0, -1, NONE));
        EXPECT.thrown("neither call nor number, and 60", Given::sixtyBills, ILLEGAL, x -> x.bill(-1, -1, NONE));
    }

    private static void exceptionBeforeNone() {
        EXPECT.thrown("60, and the number is there", Given::sixtyBills, FULL, x -> x.bill(0, 0, NONE));
        EXPECT.thrown("60, and above is not there", Given::sixtyBills, FULL, x -> x.bill(0, 1000, 60));
        EXPECT.thrown("60, and above is of another call", Given::sixtyBills, FULL, x -> x.bill(0, 1000, 1));
        EXPECT.thrown("60, and above has depth 4", Given::full, FULL, x -> x.bill(0, 1000, 3));
        EXPECT.thrown("no such call, and above is not there", Given::chain, ILLEGAL, x -> x.bill(4, 1, 9));
        EXPECT.thrown("no such number, and above has depth 4", Given::chain, ILLEGAL, x -> x.bill(0, -1, 3));
    }
}
