/** Promise 9: title. */
public final class TitleTest {
    private static final int NONE = BillMatch.NONE;
    private static final Class<?> ILLEGAL = IllegalArgumentException.class;
    private static final Expect EXPECT = new Expect("promise 9");

    public static void main(String[] args) {
        EXPECT.sentence("The TITLE passes: 1", TitleTest::passes);
        EXPECT.sentence("a HOLDER 0 .. 9 (at first 0)", TitleTest::holders);
        EXPECT.sentence("0 if the first one is not its holder", TitleTest::notItsHolder);
        EXPECT.sentence("0 if .. an order was given for the bill", TitleTest::wasOrdered);
        EXPECT.sentence("IllegalArgumentException if there is no such bill", TitleTest::noSuchBill);
        EXPECT.sentence("IllegalArgumentException if there is no such .. holder", TitleTest::noSuchHolder);
        EXPECT.sentence("IllegalArgumentException if .. they are the same", TitleTest::theSame);
        EXPECT.sentence("60 at most", TitleTest::lastBill);
        EXPECT.end();
    }

    /** Bill 0 is held by 4, bill 1 under it by 0. */
    private static void two(BillMatch x) {
        x.bill(0, 1, NONE);
        x.bill(0, 2, 0);
        x.title(0, 0, 4);
    }

    private static void passes() {
        BillMatch x = new BillMatch();
        two(x);
        EXPECT.same("holder", 4, x.look(0, 11));
        EXPECT.same("holder of the one under it", 0, x.look(1, 11));
        EXPECT.same("passes on", 1, x.title(0, 4, 7));
        EXPECT.same("holder then", 7, x.look(0, 11));
        EXPECT.same("passes back", 1, x.title(0, 7, 4));
        EXPECT.same("holder at last", 4, x.look(0, 11));
    }

    private static void holders() {
        BillMatch x = new BillMatch();
        x.bill(0, 1, NONE);
        EXPECT.same("at first", 0, x.look(0, 11));
        for (int holder = 0; holder < 9; holder++) {
            EXPECT.same("from " + holder, 1, x.title(0, holder, holder + 1));
            EXPECT.same("holder", holder + 1, x.look(0, 11));
        }
        EXPECT.same("from the largest to the least", 1, x.title(0, 9, 0));
        EXPECT.same("holder at last", 0, x.look(0, 11));
    }

    private static void notItsHolder() {
        EXPECT.refused("who held it before", TitleTest::two, 0, x -> x.title(0, 0, 5));
        EXPECT.refused("who never held it", TitleTest::two, 0, x -> x.title(0, 9, 5));
        EXPECT.refused("to the holder", TitleTest::two, 0, x -> x.title(0, 0, 4));
    }

    /** A box on both bills that bill 0 ordered. */
    private static void ordered(BillMatch x) {
        two(x);
        x.box(0, 1, 1);
        x.on(0, 0);
        x.on(0, 1);
        x.land(0, 1);
        x.order(0, 0, 4);
    }

    private static void wasOrdered() {
        EXPECT.refused("from its holder", TitleTest::ordered, 0, x -> x.title(0, 4, 5));
        EXPECT.refused("from another one", TitleTest::ordered, 0, x -> x.title(0, 0, 5));
        EXPECT.answers("another bill over the same box", TitleTest::ordered, 1, x -> x.title(1, 0, 5));
        EXPECT.answers("an order that was refused", x -> {
            two(x);
            x.box(0, 1, 1);
            x.on(0, 0);
            x.order(0, 0, 4);
        }, 1, x -> x.title(0, 4, 5));
    }

    private static void noSuchBill() {
        int[] none = {-1, 2, 3, 59, 60, Integer.MAX_VALUE, Integer.MIN_VALUE};
        for (int bill : none) {
            EXPECT.thrown("bill " + bill, TitleTest::two, ILLEGAL, x -> x.title(bill, 0, 1));
        }
    }

    private static void noSuchHolder() {
        int[] none = {-1, 10, 11, Integer.MAX_VALUE, Integer.MIN_VALUE};
        for (int holder : none) {
            EXPECT.thrown("from " + holder, TitleTest::two, ILLEGAL, x -> x.title(0, holder, 1));
            EXPECT.thrown("to " + holder, TitleTest::two, ILLEGAL, x -> x.title(0, 4, holder));
            EXPECT.thrown("to " + holder + ", ordered", TitleTest::ordered, ILLEGAL, x -> x.title(0, 4, holder));
        }
    }

    private static void theSame() {
        EXPECT.thrown("who holds it", TitleTest::two, ILLEGAL, x -> x.title(0, 4, 4));
        EXPECT.thrown("who does not", TitleTest::two, ILLEGAL, x -> x.title(0, 3, 3));
        EXPECT.thrown("ordered", TitleTest::ordered, ILLEGAL, x -> x.title(0, 4, 4));
        EXPECT.thrown("the least one", TitleTest::two, ILLEGAL, x -> x.title(1, 0, 0));
        EXPECT.thrown("the largest one", TitleTest::two, ILLEGAL, x -> x.title(1, 9, 9));
    }

    private static void lastBill() {
        EXPECT.answers("bill 59", Given::sixtyBills, 1, x -> x.title(59, 0, 1));
        EXPECT.thrown("bill 60", Given::sixtyBills, ILLEGAL, x -> x.title(60, 0, 1));
    }
}
