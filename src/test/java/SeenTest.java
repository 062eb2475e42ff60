import java.util.NoSuchElementException;

/** Promise 14: seen. */
public final class SeenTest {
    private static final int NONE = BillMatch.NONE;
    private static final Expect EXPECT = new Expect("promise 14");

    public static void main(String[] args) {
        all();
        waiting();
        wrongInputs();
        EXPECT.end();
    }

    /** The bills' own numbers fall while their numbers here rise. */
    private static void boxes(BillMatch x) {
        for (int bill = 0; bill < 4; bill++) {
            x.bill(1, 90 - bill, NONE);
        }
        x.box(0, 5, 70);
        x.box(1, 6, 80);
        x.box(2, 7, 90);
        x.leg(0, 1);
        x.leg(1, 2);
        x.on(1, 3);
        x.on(1, 0);
        x.on(1, 2);
        x.land(1, 77);
        x.order(2, 1, 0);
    }

    private static void all() {
        BillMatch x = new BillMatch();
        boxes(x);
        int[] due = {1, 6, 80, 77, 3, 0, 2, 2, 0, 150, 0, 2, 3};
        for (int what = 0; what < due.length; what++) {
            EXPECT.same("what " + what, due[what], x.seen(1, what));
        }
        int[] bare = {0, 5, 70, NONE, 0, 0, NONE, 1, 0, 70};
        for (int what = 0; what < bare.length; what++) {
            EXPECT.same("bare, what " + what, bare[what], x.seen(0, what));
        }
        EXPECT.same("goes on as none", NONE, x.seen(2, 7));
        EXPECT.same("weight along legs", 240, x.seen(2, 9));
    }

    private static void waiting() {
        BillMatch x = new BillMatch();
        x.box(0, 1, 1);
        x.bill(0, 1, NONE);
        EXPECT.same("not landed", 0, x.seen(0, 5));
        x.land(0, 0);
        EXPECT.same("landed, on no bill", 1, x.seen(0, 5));
        x.on(0, 0);
        EXPECT.same("landed, on a bill", 0, x.seen(0, 5));
    }

    private static void wrongInputs() {
        Class<?> outside = IndexOutOfBoundsException.class;
        Class<?> none = NoSuchElementException.class;
        EXPECT.thrown("box -1", SeenTest::boxes, outside, x -> x.seen(-1, 0));
        EXPECT.thrown("box 3", SeenTest::boxes, outside, x -> x.seen(3, 0));
        EXPECT.thrown("box 60", SeenTest::boxes, outside, x -> x.seen(60, 13));
        EXPECT.thrown("what -1", SeenTest::boxes, outside, x -> x.seen(0, -1));
        EXPECT.thrown("what 14", SeenTest::boxes, outside, x -> x.seen(1, 14));
        EXPECT.thrown("a fourth bill", SeenTest::boxes, none, x -> x.seen(1, 13));
        EXPECT.thrown("a first bill", SeenTest::boxes, none, x -> x.seen(0, 10));
    }
}
