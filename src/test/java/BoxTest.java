/** Promise 4: box. */
public final class BoxTest {
    private static final int NONE = BillMatch.NONE;
    private static final Class<?> ILLEGAL = IllegalArgumentException.class;
    private static final Class<?> FULL = IllegalStateException.class;
    private static final Expect EXPECT = new Expect("promise 4");

    public static void main(String[] args) {
        EXPECT.sentence("A box: its number here", BoxTest::itsNumberHere);
        EXPECT.sentence("NONE if the number is there in the call.", BoxTest::numberIsThere);
        EXPECT.sentence("IllegalArgumentException if there is no such call", BoxTest::noSuchCall);
        EXPECT.sentence("numbers can't be: a NUMBER (0 .. 99999999", BoxTest::numberCanNotBe);
        EXPECT.sentence("numbers can't be: a weight (0 .. 1000000)", BoxTest::weightCanNotBe);
        EXPECT.sentence("IllegalStateException if there are 60.", BoxTest::thereAreSixty);
        EXPECT.sentence("Of several exceptions the one told first is thrown.", BoxTest::severalExceptions);
        EXPECT.end();
    }

    private static void one(BillMatch x) {
        x.box(0, 5, 10);
        x.bill(0, 7, NONE);
    }

    private static void itsNumberHere() {
        BillMatch x = new BillMatch();
        EXPECT.same("first", 0, x.box(0, 0, 0));
        EXPECT.same("second", 1, x.box(3, 99999999, 1000000));
        int[] due = {3, 99999999, 1000000, NONE, 0, 0, NONE, NONE, 1, 1000000};
        for (int what = 0; what < due.length; what++) {
            EXPECT.same("new box, what " + what, due[what], x.seen(1, what));
        }
        EXPECT.same("boxes", 2, x.count(1));
    }

    private static void numberIsThere() {
        EXPECT.refused("with another weight", BoxTest::one, NONE, x -> x.box(0, 5, 11));
        EXPECT.refused("with the same weight", BoxTest::one, NONE, x -> x.box(0, 5, 10));
        EXPECT.refused("the least one", x -> x.box(2, 0, 1), NONE, x -> x.box(2, 0, 1));
        EXPECT.refused("the largest one", x -> x.box(2, 99999999, 1), NONE, x -> x.box(2, 99999999, 1));
        EXPECT.answers("in another call", BoxTest::one, 1, x -> x.box(1, 5, 10));
        EXPECT.answers("that of a bill", BoxTest::one, 1, x -> x.box(0, 7, 10));
    }

    private static void noSuchCall() {
        int[] none = {-1, 4, 5, 32, Integer.MAX_VALUE, Integer.MIN_VALUE};
        for (int call : none) {
            EXPECT.thrown("call " + call, BoxTest::one, ILLEGAL, x -> x.box(call, 1, 1));
        }
        EXPECT.answers("the least one", BoxTest::one, 1, x -> x.box(0, 1, 1));
        EXPECT.answers("the largest one", BoxTest::one, 1, x -> x.box(3, 1, 1));
    }

    private static void numberCanNotBe() {
        int[] none = {-1, 100000000, Integer.MAX_VALUE, Integer.MIN_VALUE};
        for (int number : none) {
            EXPECT.thrown("number " + number, BoxTest::one, ILLEGAL, x -> x.box(0, number, 1));
        }
        EXPECT.answers("the least one", BoxTest::one, 1, x -> x.box(0, 0, 1));
        EXPECT.answers("the largest one", BoxTest::one, 1, x -> x.box(0, 99999999, 1));
    }

    private static void weightCanNotBe() {
        int[] none = {-1, 1000001, Integer.MAX_VALUE, Integer.MIN_VALUE};
        for (int weight : none) {
            EXPECT.thrown("weight " + weight, BoxTest::one, ILLEGAL, x -> x.box(0, 1, weight));
        }
        EXPECT.answers("the least one", BoxTest::one, 1, x -> x.box(0, 1, 0));
        EXPECT.answers("the largest one", BoxTest::one, 1, x -> x.box(0, 1, 1000000));
    }

    private static void thereAreSixty() {
        BillMatch x = new BillMatch();
        for (int box = 0; box < 60; box++) {
            EXPECT.same("box " + box, box, x.box(box % 4, box, 1));
        }
        EXPECT.same("boxes", 60, x.count(1));
        EXPECT.thrown("a 61st", Given::sixtyBoxes, FULL, y -> y.box(0, 1000, 1));
        EXPECT.thrown("a 61st, and the number is there", Given::sixtyBoxes, FULL, y -> y.box(0, 0, 1));
        EXPECT.thrown("one more of a full object", Given::full, FULL, y -> y.box(3, 0, 1));
    }

    private static void severalExceptions() {
        EXPECT.thrown("no such call, and 60", Given::sixtyBoxes, ILLEGAL, x -> x.box(4, 1000, 1));
        EXPECT.thrown("no such number, and 60", Given::sixtyBoxes, ILLEGAL, x -> x.box(0, 100000000, 1));
        EXPECT.thrown("no such weight, and 60", Given::sixtyBoxes, ILLEGAL, x -> x.box(0, 1000, -1));
        EXPECT.thrown("no such weight, and the number is there", BoxTest::one, ILLEGAL, x -> x.box(0, 5, -1));
    }
}
