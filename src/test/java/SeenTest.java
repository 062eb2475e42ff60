import java.util.NoSuchElementException;

/** Promise 14: seen. */
public final class SeenTest {
    private static final int NONE = BillMatch.NONE;
    private static final Class<?> OUTSIDE = IndexOutOfBoundsException.class;
    private static final Class<?> LESS = NoSuchElementException.class;
    private static final Expect EXPECT = new Expect("promise 14");

    public static void main(String[] args) {
        EXPECT.sentence("Of a box: what 0: call .. 9: its weight and that of all it goes on from", SeenTest::all);
        EXPECT.sentence("Of a box on which nothing was done", SeenTest::bare);
        EXPECT.sentence("3: landed weight (NONE without)", SeenTest::landed);
        EXPECT.sentence("5: 1 if it WAITS", SeenTest::waiting);
        EXPECT.sentence("6: the bill that ordered it, NONE without", SeenTest::orderedBy);
        EXPECT.sentence("7: the one it goes on as, 8: its FIRST box, 9: its weight and that of all", SeenTest::legs);
        EXPECT.sentence("from 10 on the bill it is on, what - 10, by numbers", SeenTest::billsByNumbers);
        EXPECT.sentence("IndexOutOfBoundsException if there is no such box", SeenTest::noSuchBox);
        EXPECT.sentence("IndexOutOfBoundsException if there is no such .. what (13 at most)", SeenTest::noSuchWhat);
        EXPECT.sentence("NoSuchElementException if it is on less bills", SeenTest::onLessBills);
        EXPECT.sentence("Of several exceptions the one told first is thrown.", SeenTest::severalExceptions);
        EXPECT.end();
    }

    /** The bills' own numbers fall while their numbers here rise. */
    private static void boxes(BillMatch x) {
        for (int bill = 0; bill < 5; bill++) {
            x.bill(1, 90 - bill, NONE);
        }
        x.box(0, 5, 70);
        x.box(1, 6, 80);
        x.box(2, 7, 90);
        x.leg(0, 1);
        x.leg(1, 2);
        x.on(1, 3);
        x.on(1, 0);
        x.on(1, 2);
        x.land(1, 77);
    }

    private static void ordered(BillMatch x) {
        boxes(x);
        x.order(2, 1, 0);
    }

    private static void all() {
        BillMatch x = new BillMatch();
        ordered(x);
        int[] due = {1, 6, 80, 77, 3, 0, 2, 2, 0, 150, 0, 2, 3};
        for (int what = 0; what < due.length; what++) {
            EXPECT.same("what " + what, due[what], x.seen(1, what));
        }
    }

    private static void bare() {
        BillMatch x = new BillMatch();
        x.box(3, 99999999, 1000000);
        int[] due = {3, 99999999, 1000000, NONE, 0, 0, NONE, NONE, 0, 1000000};
        for (int what = 0; what < due.length; what++) {
            EXPECT.same("what " + what, due[what], x.seen(0, what));
        }
    }

    private static void landed() {
        EXPECT.answers("not landed", SeenTest::boxes, NONE, x -> x.seen(0, 3));
        EXPECT.answers("landed", SeenTest::boxes, 77, x -> x.seen(1, 3));
        EXPECT.answers("landed with nothing", x -> {
            boxes(x);
            x.land(0, 0);
        }, 0, x -> x.seen(0, 3));
    }

    private static void waiting() {
        BillMatch x = new BillMatch();
        x.box(0, 1, 1);
        x.bill(0, 1, NONE);
        EXPECT.same("not landed", 0, x.seen(0, 5));
        x.land(0, 0);
        EXPECT.same("landed, on no bill", 1, x.seen(0, 5));
        x.on(0, 0);
        EXPECT.same("landed, on a bill", 0, x.seen(0, 5));
        x.box(0, 2, 1);
        x.on(1, 0);
        EXPECT.same("on a bill, not landed", 0, x.seen(1, 5));
    }

    private static void orderedBy() {
        EXPECT.answers("none", SeenTest::boxes, NONE, x -> x.seen(1, 6));
        EXPECT.answers("bill 2", SeenTest::ordered, 2, x -> x.seen(1, 6));
        EXPECT.answers("bill 0", x -> {
            boxes(x);
            x.order(0, 1, 0);
        }, 0, x -> x.seen(1, 6));
        EXPECT.answers("another box", SeenTest::ordered, NONE, x -> x.seen(0, 6));
    }

    private static void legs() {
        int[][] due = {{1, 0, 70}, {2, 0, 150}, {NONE, 0, 240}};
        for (int i = 0; i < 3; i++) {
            int box = i;
            for (int j = 0; j < 3; j++) {
                int what = 7 + j;
                EXPECT.answers("box " + box + " what " + what, SeenTest::boxes, due[i][j], x -> x.seen(box, what));
            }
        }
    }

    private static void onFour(BillMatch x) {
        boxes(x);
        x.on(1, 1);
    }

    private static void billsByNumbers() {
        int[] three = {0, 2, 3};
        for (int i = 0; i < three.length; i++) {
            int what = 10 + i;
            EXPECT.answers("of three, what " + what, SeenTest::boxes, three[i], x -> x.seen(1, what));
        }
        for (int i = 0; i < 4; i++) {
            int what = 10 + i;
            EXPECT.answers("of four, what " + what, SeenTest::onFour, i, x -> x.seen(1, what));
        }
        int[] full = {0, 3, 5, 59};
        for (int i = 0; i < 4; i++) {
            int what = 10 + i;
            EXPECT.answers("of a full object, what " + what, Given::full, full[i], x -> x.seen(0, what));
        }
    }

    private static void noSuchBox() {
        int[] none = {-1, 3, 4, 59, 60, Integer.MAX_VALUE, Integer.MIN_VALUE};
        for (int box : none) {
            EXPECT.thrown("box " + box, SeenTest::boxes, OUTSIDE, x -> x.seen(box, 0));
        }
        EXPECT.thrown("box 60 of 60", Given::sixtyBoxes, OUTSIDE, x -> x.seen(60, 0));
        EXPECT.answers("the last one of 60", Given::sixtyBoxes, 59, x -> x.seen(59, 1));
    }

    private static void noSuchWhat() {
        int[] none = {-1, 14, 15, Integer.MAX_VALUE, Integer.MIN_VALUE};
        for (int what : none) {
            EXPECT.thrown("what " + what, SeenTest::boxes, OUTSIDE, x -> x.seen(0, what));
            EXPECT.thrown("what " + what + " of one on four", SeenTest::onFour, OUTSIDE, x -> x.seen(1, what));
        }
        EXPECT.answers("what 13 of one on four", SeenTest::onFour, 3, x -> x.seen(1, 13));
    }

    private static void onLessBills() {
        for (int i = 0; i <= 4; i++) {
            int bills = i;
            for (int j = 10; j <= 13; j++) {
                int what = j;
                if (what - 10 < bills) {
                    EXPECT.answers(what + " of one on " + bills, x -> onSome(x, bills), what - 10, x -> x.seen(0, what));
                } else {
                    EXPECT.thrown(what + " of one on " + bills, x -> onSome(x, bills), LESS, x -> x.seen(0, what));
                }
            }
        }
    }

    private static void onSome(BillMatch x, int bills) {
        x.box(0, 0, 0);
        for (int bill = 0; bill < bills; bill++) {
            x.bill(0, bill, NONE);
            x.on(0, bill);
        }
    }

    private static void severalExceptions() {
        EXPECT.thrown("no such box, on less bills", SeenTest::boxes, OUTSIDE, x -> x.seen(3, 13));
        EXPECT.thrown("no such box of none, on less bills", Given::nothing, OUTSIDE, x -> x.seen(0, 10));
        EXPECT.thrown("no such what, on less bills", SeenTest::boxes, OUTSIDE, x -> x.seen(0, 14));
    }
}
