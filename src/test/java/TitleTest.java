/** Promise 9: title. */
public final class TitleTest {
    private static final int NONE = BillMatch.NONE;
    private static final Expect EXPECT = new Expect("promise 9");

    public static void main(String[] args) {
        chain();
        refusals();
        wrongInputs();
        EXPECT.end();
    }

    private static void two(BillMatch x) {
        x.bill(0, 1, NONE);
        x.bill(0, 2, 0);
        x.title(0, 0, 4);
    }

    private static void chain() {
        BillMatch x = new BillMatch();
        two(x);
        EXPECT.same("holder", 4, x.look(0, 11));
        EXPECT.same("holder of the one under it", 0, x.look(1, 11));
        EXPECT.same("passes on", 1, x.title(0, 4, 9));
        EXPECT.same("holder then", 9, x.look(0, 11));
        EXPECT.same("passes back", 1, x.title(0, 9, 0));
        EXPECT.same("holder at last", 0, x.look(0, 11));
    }

    private static void ordered(BillMatch x) {
        two(x);
        x.box(0, 1, 1);
        x.on(0, 0);
        x.on(0, 1);
        x.land(0, 1);
        x.order(0, 0, 4);
    }

    private static void refusals() {
        EXPECT.refused("not its holder", TitleTest::two, 0, x -> x.title(0, 0, 5));
        EXPECT.refused("an order was given", TitleTest::ordered, 0, x -> x.title(0, 4, 5));
        BillMatch x = new BillMatch();
        ordered(x);
        EXPECT.same("another bill over the same box", 1, x.title(1, 0, 5));
    }

    private static void wrongInputs() {
        Class<?> illegal = IllegalArgumentException.class;
        EXPECT.thrown("bill -1", TitleTest::two, illegal, x -> x.title(-1, 0, 1));
        EXPECT.thrown("bill 2", TitleTest::two, illegal, x -> x.title(2, 0, 1));
        EXPECT.thrown("from -1", TitleTest::two, illegal, x -> x.title(0, -1, 1));
        EXPECT.thrown("from 10", TitleTest::two, illegal, x -> x.title(0, 10, 1));
        EXPECT.thrown("to -1", TitleTest::two, illegal, x -> x.title(0, 4, -1));
        EXPECT.thrown("to 10", TitleTest::two, illegal, x -> x.title(0, 4, 10));
        EXPECT.thrown("the same, who holds it", TitleTest::two, illegal, x -> x.title(0, 4, 4));
        EXPECT.thrown("the same, who does not", TitleTest::two, illegal, x -> x.title(0, 3, 3));
    }
}
