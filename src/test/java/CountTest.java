/** Promise 17: count. */
public final class CountTest {
    private static final int NONE = BillMatch.NONE;
    private static final Expect EXPECT = new Expect("promise 17");

    public static void main(String[] args) {
        EXPECT.sentence("what 0: bills .. 7: calls that arrived, as bits", CountTest::all);
        EXPECT.sentence("An object on which nothing was done", CountTest::nothing);
        EXPECT.sentence("An object that is full", CountTest::full);
        EXPECT.sentence("3: penalties in all", CountTest::penalties);
        EXPECT.sentence("7: calls that arrived, as bits", CountTest::bits);
        EXPECT.sentence("8: masters that differ", CountTest::mastersThatDiffer);
        EXPECT.sentence("8: .. or under which one differs", CountTest::oneUnderDiffers);
        EXPECT.sentence("NONE for another what.", CountTest::anotherWhat);
        EXPECT.end();
    }

    private static void some(BillMatch x) {
        x.bill(0, 1, NONE);
        x.bill(0, 2, 0);
        x.line(0, 3000, 1);
        x.line(1, 10, 1);
        x.line(1, 10, 1);
        x.arrive(0);
        x.arrive(2);
        x.amend(0, 0, 1000);
        x.amend(0, 0, 1001);
        for (int box = 0; box < 5; box++) {
            x.box(0, box, 1);
        }
        x.land(0, 1);
        x.land(1, 1);
        x.land(2, 1);
        x.land(3, 1);
        x.on(0, 0);
        x.order(0, 0, 0);
    }

    private static void all() {
        int[] due = {2, 5, 3, 202, 1, 4, 3, 5, 1};
        for (int i = 0; i < due.length; i++) {
            int what = i;
            EXPECT.answers("what " + what, CountTest::some, due[i], x -> x.count(what));
        }
    }

    private static void nothing() {
        for (int i = 0; i <= 8; i++) {
            int what = i;
            EXPECT.answers("what " + what, Given::nothing, 0, x -> x.count(what));
        }
    }

    private static void full() {
        int[] due = {60, 60, 200, 0, 1, 2, 1, 0, 1};
        for (int i = 0; i < due.length; i++) {
            int what = i;
            EXPECT.answers("what " + what, Given::full, due[i], x -> x.count(what));
        }
    }

    private static void penalties() {
        BillMatch x = new BillMatch();
        x.bill(3, 1, NONE);
        x.line(0, 0, 0);
        x.arrive(3);
        for (int time = 1; time <= 400; time++) {
            x.amend(0, 0, time % 2 * 1000000);
        }
        EXPECT.same("400 of the dearest", 440000, x.count(3));
    }

    private static void bits() {
        for (int i = 0; i < 16; i++) {
            int calls = i;
            EXPECT.answers("calls " + calls, x -> arrive(x, calls), calls, x -> x.count(7));
        }
    }

    private static void arrive(BillMatch x, int calls) {
        for (int call = 0; call < 4; call++) {
            if ((calls >> call & 1) == 1) {
                x.arrive(call);
            }
        }
    }

    private static void mastersThatDiffer() {
        BillMatch x = new BillMatch();
        x.bill(1, 1, NONE);
        x.line(0, 50, 1);
        EXPECT.same("none stands under it", 0, x.count(8));
        x.bill(1, 2, 0);
        EXPECT.same("a house without lines", 1, x.count(8));
        x.line(1, 50, 1);
        EXPECT.same("they agree", 0, x.count(8));
        x.amend(1, 0, 51);
        EXPECT.same("a kilogram too much", 1, x.count(8));
        x.amend(1, 0, 49);
        EXPECT.same("a kilogram too little", 1, x.count(8));
        x.bill(2, 1, NONE);
        x.bill(2, 2, 2);
        EXPECT.same("sums of nothing agree", 1, x.count(8));
        x.line(2, 1, 1);
        EXPECT.same("two masters", 2, x.count(8));
    }

    private static void oneUnderDiffers() {
        BillMatch x = new BillMatch();
        Given.chain(x);
        EXPECT.same("no lines", 0, x.count(8));
        x.line(3, 5, 1);
        EXPECT.same("one of depth 3 differs", 1, x.count(8));
        x.line(2, 5, 1);
        EXPECT.same("one of depth 2 differs", 1, x.count(8));
        x.line(1, 5, 1);
        EXPECT.same("the master differs", 1, x.count(8));
        x.line(0, 5, 1);
        EXPECT.same("all agree", 0, x.count(8));
        x.line(2, 9, 1);
        EXPECT.same("two of one tree count once", 1, x.count(8));
        x.bill(0, 5, NONE);
        EXPECT.same("a master beside it does not", 1, x.count(8));
        EXPECT.answers("thirty of sixty", CountTest::thirtyTrees, 30, y -> y.count(8));
    }

    private static void thirtyTrees(BillMatch x) {
        for (int bill = 0; bill < 60; bill++) {
            x.bill(0, bill, bill % 2 == 0 ? NONE : bill - 1);
            x.line(bill, bill, 0);
        }
    }

    private static void anotherWhat() {
        int[] none = {-1, -2, 9, 10, Integer.MAX_VALUE, Integer.MIN_VALUE};
        for (int what : none) {
            EXPECT.refused("what " + what, CountTest::some, NONE, x -> x.count(what));
            EXPECT.refused("what " + what + " of none", Given::nothing, NONE, x -> x.count(what));
        }
    }
}
