/** Promise 1: a new object. */
public final class NewObjectTest {
    private static final int NONE = BillMatch.NONE;
    private static final Class<?> ILLEGAL = IllegalArgumentException.class;
    private static final Expect EXPECT = new Expect("promise 1");

    public static void main(String[] args) {
        EXPECT.sentence("NONE = -1", () -> EXPECT.same("NONE", -1, BillMatch.NONE));
        EXPECT.sentence("No bills", NewObjectTest::noBills);
        EXPECT.sentence("boxes", NewObjectTest::noBoxes);
        EXPECT.sentence("no call has arrived", NewObjectTest::noCallHasArrived);
        EXPECT.sentence("A new object", NewObjectTest::nothingToCount);
        EXPECT.sentence("A new object", NewObjectTest::sharesNothing);
        EXPECT.end();
    }

    private static void noBills() {
        EXPECT.answers("bills", Given::nothing, 0, x -> x.count(0));
        EXPECT.thrown("look", Given::nothing, IndexOutOfBoundsException.class, x -> x.look(0, 0));
        EXPECT.thrown("line", Given::nothing, ILLEGAL, x -> x.line(0, 1, 1));
        EXPECT.thrown("amend", Given::nothing, ILLEGAL, x -> x.amend(0, 0, 1));
        EXPECT.thrown("title", Given::nothing, ILLEGAL, x -> x.title(0, 0, 1));
        EXPECT.thrown("split", Given::nothing, ILLEGAL, x -> x.split(0, 1));
        EXPECT.refused("under bill 0", Given::nothing, NONE, x -> x.bill(0, 0, 0));
        EXPECT.refused("like", Given::nothing, NONE, x -> x.like(0, 0, 0));
        EXPECT.thrown("order", x -> x.box(0, 0, 0), ILLEGAL, x -> x.order(0, 0, 0));
        EXPECT.denied("on", x -> x.box(0, 0, 0), x -> x.on(0, 0));
        EXPECT.answers("the first one", Given::nothing, 0, x -> x.bill(0, 0, NONE));
    }

    private static void noBoxes() {
        EXPECT.answers("boxes", Given::nothing, 0, x -> x.count(1));
        EXPECT.thrown("seen", Given::nothing, IndexOutOfBoundsException.class, x -> x.seen(0, 0));
        EXPECT.thrown("seen on bills", Given::nothing, IndexOutOfBoundsException.class, x -> x.seen(0, 10));
        EXPECT.denied("land", Given::nothing, x -> x.land(0, 0));
        EXPECT.denied("leg", Given::nothing, x -> x.leg(0, 1));
        EXPECT.refused("waits", Given::nothing, NONE, x -> x.waits(0));
        EXPECT.thrown("order", x -> x.bill(0, 0, NONE), ILLEGAL, x -> x.order(0, 0, 0));
        EXPECT.denied("on", x -> x.bill(0, 0, NONE), x -> x.on(0, 0));
        EXPECT.answers("the first one", Given::nothing, 0, x -> x.box(0, 0, 0));
    }

    private static void aLineOfEachCall(BillMatch x) {
        for (int call = 0; call < 4; call++) {
            x.bill(call, 0, NONE);
            x.line(call, 5000, 1);
        }
    }

    private static void noCallHasArrived() {
        EXPECT.answers("bits", Given::nothing, 0, x -> x.count(7));
        for (int i = 0; i < 4; i++) {
            int call = i;
            EXPECT.answers("an amendment in call " + i, NewObjectTest::aLineOfEachCall, 0, x -> x.amend(call, 0, 0));
            EXPECT.allowed("call " + i + " may arrive", Given::nothing, x -> x.arrive(call));
        }
    }

    private static void nothingToCount() {
        for (int i = 0; i <= 8; i++) {
            int what = i;
            EXPECT.answers("count " + what, Given::nothing, 0, x -> x.count(what));
        }
    }

    private static void sharesNothing() {
        BillMatch other = new BillMatch();
        Given.full(new BillMatch());
        for (int what = 0; what <= 8; what++) {
            EXPECT.same("one made before, count " + what, 0, other.count(what));
            EXPECT.same("one made after, count " + what, 0, new BillMatch().count(what));
        }
    }
}
