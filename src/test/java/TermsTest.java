/** The section 'Terms': what holds for several promises at once. */
public final class TermsTest {
    private static final int NONE = BillMatch.NONE;
    private static final Class<?> ILLEGAL = IllegalArgumentException.class;
    private static final Expect EXPECT = new Expect("terms");

    public static void main(String[] args) {
        EXPECT.sentence("CALLS 0 .. 3 of ships.", TermsTest::calls);
        EXPECT.sentence("a NUMBER (0 .. 99999999", TermsTest::numbers);
        EXPECT.sentence("one bill of a number in a call", TermsTest::oneBillOfANumber);
        EXPECT.sentence("stands under another one of its call, or under none: a MASTER", TermsTest::masters);
        EXPECT.sentence("Bills have numbers 0, 1, ..", TermsTest::numbersHere);
        EXPECT.sentence("depth 4 at most (a master has 1)", TermsTest::depth);
        EXPECT.sentence("a weight 0 .. 1000000", TermsTest::weights);
        EXPECT.sentence("pieces 0 .. 10000", TermsTest::pieces);
        EXPECT.sentence("200 lines at most in all", TermsTest::lines);
        EXPECT.sentence("Its OWN WEIGHT and PIECES are the sums of its lines.", TermsTest::sums);
        EXPECT.sentence("by its own less the sum of the OWN weights of those directly under it", TermsTest::differs);
        EXPECT.sentence("(of one without any it is 0)", TermsTest::withoutAny);
        EXPECT.sentence("one of a number in a call; 60 at most", TermsTest::boxes);
        EXPECT.sentence("a box is ON bills of its call (of 4 at most), each once", TermsTest::onBills);
        EXPECT.sentence("A box LANDS once", TermsTest::landsOnce);
        EXPECT.sentence("It WAITS if it has landed and is on no bill.", TermsTest::waits);
        EXPECT.end();
    }

    private static void calls() {
        for (int i = 0; i < 4; i++) {
            int call = i;
            EXPECT.answers("a bill of call " + i, Given::nothing, 0, x -> x.bill(call, 1, NONE));
            EXPECT.answers("a box of call " + i, Given::nothing, 0, x -> x.box(call, 1, 1));
            EXPECT.allowed("arrival of call " + i, Given::nothing, x -> x.arrive(call));
            EXPECT.answers("alike in call " + i, x -> x.bill(call, 1, NONE), 0, x -> x.like(call, 1, 0));
        }
        int[] none = {-1, 4};
        for (int call : none) {
            EXPECT.thrown("a bill of call " + call, Given::nothing, ILLEGAL, x -> x.bill(call, 1, NONE));
            EXPECT.thrown("a box of call " + call, Given::nothing, ILLEGAL, x -> x.box(call, 1, 1));
            EXPECT.denied("arrival of call " + call, Given::nothing, x -> x.arrive(call));
            EXPECT.thrown("alike in call " + call, Given::nothing, ILLEGAL, x -> x.like(call, 1, 0));
        }
    }

    private static void numbers() {
        int[] edges = {0, 99999999};
        for (int number : edges) {
            EXPECT.answers("bill " + number, x -> x.bill(0, number, NONE), number, x -> x.look(0, 1));
            EXPECT.answers("box " + number, x -> x.box(0, number, 1), number, x -> x.seen(0, 1));
            EXPECT.answers("like " + number, x -> x.bill(0, number, NONE), 0, x -> x.like(0, number, 0));
        }
        int[] none = {-1, 100000000};
        for (int number : none) {
            EXPECT.thrown("bill " + number, Given::nothing, ILLEGAL, x -> x.bill(0, number, NONE));
            EXPECT.thrown("box " + number, Given::nothing, ILLEGAL, x -> x.box(0, number, 1));
            EXPECT.thrown("like " + number, Given::nothing, ILLEGAL, x -> x.like(0, number, 0));
        }
    }

    private static void oneOfEachCall(BillMatch x) {
        for (int call = 0; call < 4; call++) {
            x.bill(call, 5, NONE);
        }
    }

    private static void oneBillOfANumber() {
        EXPECT.answers("the number in each call", TermsTest::oneOfEachCall, 4, x -> x.count(0));
        for (int i = 0; i < 4; i++) {
            int call = i;
            EXPECT.refused("again in call " + i, TermsTest::oneOfEachCall, NONE, x -> x.bill(call, 5, NONE));
            EXPECT.refused("under the other one in call " + i, TermsTest::oneOfEachCall, NONE, x -> x.bill(call, 5, call));
        }
    }

    private static void masters() {
        EXPECT.answers("under none", Given::chain, NONE, x -> x.look(0, 2));
        EXPECT.answers("under bill 0, not NONE", Given::chain, 0, x -> x.look(1, 2));
        EXPECT.refused("of another call", Given::chain, NONE, x -> x.bill(3, 10, 0));
    }

    /** A call that is refused takes no number away. */
    private static void numbersHere() {
        BillMatch x = new BillMatch();
        for (int bill = 0; bill < 60; bill += 2) {
            EXPECT.same("a bill", bill, x.bill(0, 10 * bill, NONE));
            EXPECT.same("a second one of its number", NONE, x.bill(0, 10 * bill, NONE));
            x.line(bill, 2, 0);
            EXPECT.same("a split of all", NONE, x.split(bill, 2));
            EXPECT.same("a split", bill + 1, x.split(bill, 1));
        }
        EXPECT.same("bills", 60, x.count(0));
    }

    private static void depth() {
        EXPECT.answers("a master has 1", Given::chain, 1, x -> x.look(0, 3));
        EXPECT.answers("4 may be", Given::chain, 4, x -> x.look(3, 3));
        EXPECT.refused("5 may not", Given::chain, NONE, x -> x.bill(0, 14, 3));
    }

    private static void weighed(BillMatch x) {
        x.bill(0, 1, NONE);
        x.line(0, 500, 5);
        x.box(0, 1, 500);
    }

    private static void weights() {
        int[] edges = {0, 1000000};
        for (int weight : edges) {
            EXPECT.answers("line " + weight, TermsTest::weighed, 1, x -> x.line(0, weight, 1));
            EXPECT.answers("amend " + weight, TermsTest::weighed, 0, x -> x.amend(0, 0, weight));
            EXPECT.answers("box " + weight, TermsTest::weighed, 1, x -> x.box(0, 2, weight));
            EXPECT.allowed("land " + weight, TermsTest::weighed, x -> x.land(0, weight));
        }
        int[] none = {-1, 1000001};
        for (int weight : none) {
            EXPECT.thrown("line " + weight, TermsTest::weighed, ILLEGAL, x -> x.line(0, weight, 1));
            EXPECT.thrown("amend " + weight, TermsTest::weighed, ILLEGAL, x -> x.amend(0, 0, weight));
            EXPECT.thrown("box " + weight, TermsTest::weighed, ILLEGAL, x -> x.box(0, 2, weight));
            EXPECT.denied("land " + weight, TermsTest::weighed, x -> x.land(0, weight));
        }
    }

    private static void pieces() {
        EXPECT.answers("the least", TermsTest::weighed, 1, x -> x.line(0, 1, 0));
        EXPECT.answers("the largest", TermsTest::weighed, 1, x -> x.line(0, 1, 10000));
        EXPECT.thrown("below", TermsTest::weighed, ILLEGAL, x -> x.line(0, 1, -1));
        EXPECT.thrown("above", TermsTest::weighed, ILLEGAL, x -> x.line(0, 1, 10001));
    }

    private static void manyLines(BillMatch x) {
        Given.sixtyBills(x);
        Given.twoHundredLines(x);
    }

    private static void lines() {
        EXPECT.answers("of sixty bills", TermsTest::manyLines, 200, x -> x.count(2));
        for (int i = 0; i < 60; i += 59) {
            int bill = i;
            EXPECT.thrown("one more of " + i, TermsTest::manyLines, IllegalStateException.class, x -> x.line(bill, 0, 0));
        }
    }

    private static void heaviest(BillMatch x) {
        x.bill(0, 1, NONE);
        for (int line = 0; line < 200; line++) {
            x.line(0, 1000000, 10000);
        }
    }

    private static void sums() {
        EXPECT.answers("weight without lines", Given::chain, 0, x -> x.look(0, 5));
        EXPECT.answers("pieces without lines", Given::chain, 0, x -> x.look(0, 6));
        EXPECT.answers("weight of 200 lines", TermsTest::heaviest, 200000000, x -> x.look(0, 5));
        EXPECT.answers("pieces of 200 lines", TermsTest::heaviest, 2000000, x -> x.look(0, 6));
        EXPECT.answers("not those of the bill under it", TermsTest::tree, 10, x -> x.look(0, 5));
    }

    /** 10 kilograms over 20 and 30, and 400 under the 30. */
    private static void tree(BillMatch x) {
        x.bill(0, 1, NONE);
        x.bill(0, 2, 0);
        x.bill(0, 3, 0);
        x.bill(0, 4, 2);
        x.line(0, 10, 1);
        x.line(1, 20, 2);
        x.line(2, 30, 3);
        x.line(3, 400, 4);
    }

    private static void differs() {
        EXPECT.answers("the master", TermsTest::tree, -40, x -> x.look(0, 7));
        EXPECT.answers("the house", TermsTest::tree, -370, x -> x.look(2, 7));
        EXPECT.answers("one that has less under it", x -> {
            tree(x);
            x.line(0, 41, 0);
        }, 1, x -> x.look(0, 7));
        EXPECT.answers("one that agrees", x -> {
            tree(x);
            x.line(0, 40, 0);
        }, 0, x -> x.look(0, 7));
        EXPECT.answers("one with nothing under it but a bill", x -> {
            x.bill(0, 1, NONE);
            x.bill(0, 2, 0);
            x.line(0, 9, 0);
        }, 9, x -> x.look(0, 7));
        EXPECT.answers("by all that lines can weigh", TermsTest::heaviestUnder, -200000000, x -> x.look(1, 7));
    }

    private static void heaviestUnder(BillMatch x) {
        x.bill(0, 0, NONE);
        x.bill(0, 1, NONE);
        x.bill(0, 2, 1);
        for (int line = 0; line < 200; line++) {
            x.line(2, 1000000, 0);
        }
    }

    private static void withoutAny() {
        EXPECT.answers("a house with weight", TermsTest::tree, 0, x -> x.look(1, 7));
        EXPECT.answers("the deepest one", TermsTest::tree, 0, x -> x.look(3, 7));
        EXPECT.answers("a master with weight", TermsTest::weighed, 0, x -> x.look(0, 7));
    }

    private static void oneBoxOfEachCall(BillMatch x) {
        for (int call = 0; call < 4; call++) {
            x.box(call, 5, 1);
        }
    }

    private static void boxes() {
        EXPECT.answers("the number in each call", TermsTest::oneBoxOfEachCall, 4, x -> x.count(1));
        for (int i = 0; i < 4; i++) {
            int call = i;
            EXPECT.refused("again in call " + i, TermsTest::oneBoxOfEachCall, NONE, x -> x.box(call, 5, 1));
        }
        EXPECT.answers("60 may be", Given::sixtyBoxes, 60, x -> x.count(1));
        EXPECT.thrown("61 may not", Given::sixtyBoxes, IllegalStateException.class, x -> x.box(0, 99, 1));
    }

    private static void onFour(BillMatch x) {
        x.box(0, 0, 1);
        for (int bill = 0; bill < 5; bill++) {
            x.bill(0, bill, NONE);
        }
        for (int bill = 4; bill > 0; bill--) {
            x.on(0, bill);
        }
    }

    private static void onBills() {
        EXPECT.answers("4 may be", TermsTest::onFour, 4, x -> x.seen(0, 4));
        EXPECT.denied("5 may not", TermsTest::onFour, x -> x.on(0, 0));
        EXPECT.denied("twice may not", x -> {
            x.box(0, 0, 1);
            x.bill(0, 0, NONE);
            x.on(0, 0);
        }, x -> x.on(0, 0));
        EXPECT.denied("one of another call may not", x -> {
            x.box(0, 0, 1);
            x.bill(1, 0, NONE);
        }, x -> x.on(0, 0));
    }

    private static void landsOnce() {
        EXPECT.allowed("once", TermsTest::weighed, x -> x.land(0, 3));
        EXPECT.denied("twice", x -> {
            weighed(x);
            x.land(0, 3);
        }, x -> x.land(0, 4));
    }

    private static void waits() {
        boolean[] both = {false, true};
        for (boolean landed : both) {
            for (boolean onABill : both) {
                int due = landed && !onABill ? 1 : 0;
                String what = "landed " + landed + ", on a bill " + onABill;
                EXPECT.answers(what, x -> box(x, landed, onABill), due, x -> x.seen(0, 5));
                EXPECT.answers(what + ", in all", x -> box(x, landed, onABill), due, x -> x.count(6));
                EXPECT.answers(what + ", the first one", x -> box(x, landed, onABill), due - 1, x -> x.waits(0));
            }
        }
    }

    private static void box(BillMatch x, boolean landed, boolean onABill) {
        weighed(x);
        if (landed) {
            x.land(0, 0);
        }
        if (onABill) {
            x.on(0, 0);
        }
    }
}
