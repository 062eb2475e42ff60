/** Promise 3: line. */
public final class LineTest {
    private static final int NONE = BillMatch.NONE;
    private static final Expect EXPECT = new Expect("promise 3");

    public static void main(String[] args) {
        sums();
        wrongInputs();
        full();
        EXPECT.end();
    }

    private static void two(BillMatch x) {
        x.bill(0, 1, NONE);
        x.bill(1, 1, NONE);
        x.line(0, 10, 3);
    }

    private static void sums() {
        BillMatch x = new BillMatch();
        two(x);
        EXPECT.same("first of the second bill", 0, x.line(1, 7, 1));
        EXPECT.same("second of the first bill", 1, x.line(0, 1000000, 10000));
        EXPECT.same("third of the first bill", 2, x.line(0, 0, 0));
        EXPECT.same("lines of 0", 3, x.look(0, 4));
        EXPECT.same("own weight of 0", 1000010, x.look(0, 5));
        EXPECT.same("pieces of 0", 10003, x.look(0, 6));
        EXPECT.same("lines of 1", 1, x.look(1, 4));
        EXPECT.same("own weight of 1", 7, x.look(1, 5));
        EXPECT.same("pieces of 1", 1, x.look(1, 6));
        EXPECT.same("lines in all", 4, x.count(2));
    }

    private static void wrongInputs() {
        Class<?> illegal = IllegalArgumentException.class;
        EXPECT.thrown("bill -1", LineTest::two, illegal, x -> x.line(-1, 1, 1));
        EXPECT.thrown("bill 2", LineTest::two, illegal, x -> x.line(2, 1, 1));
        EXPECT.thrown("bill 60", LineTest::two, illegal, x -> x.line(60, 1, 1));
        EXPECT.thrown("weight -1", LineTest::two, illegal, x -> x.line(0, -1, 1));
        EXPECT.thrown("weight 1000001", LineTest::two, illegal, x -> x.line(0, 1000001, 1));
        EXPECT.thrown("pieces -1", LineTest::two, illegal, x -> x.line(0, 1, -1));
        EXPECT.thrown("pieces 10001", LineTest::two, illegal, x -> x.line(0, 1, 10001));
    }

    private static void full() {
        BillMatch x = new BillMatch();
        x.bill(0, 1, NONE);
        x.bill(0, 2, NONE);
        for (int line = 0; line < 200; line++) {
            EXPECT.same("line " + line, line / 2, x.line(line % 2, 1000000, 10000));
        }
        EXPECT.fails("201st", IllegalStateException.class, () -> x.line(0, 1, 1));
        EXPECT.fails("201st of no bill", IllegalArgumentException.class, () -> x.line(2, 1, 1));
        EXPECT.same("lines", 200, x.count(2));
        EXPECT.same("own weight", 100000000, x.look(0, 5));
        EXPECT.same("pieces", 1000000, x.look(1, 6));
    }
}
