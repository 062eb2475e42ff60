/** Promise 17: count. */
public final class CountTest {
    private static final int NONE = BillMatch.NONE;
    private static final Expect EXPECT = new Expect("promise 17");

    public static void main(String[] args) {
        all();
        mastersThatDiffer();
        EXPECT.end();
    }

    private static void all() {
        BillMatch x = new BillMatch();
        x.bill(0, 1, NONE);
        x.bill(0, 2, 0);
        x.line(0, 3000, 1);
        x.line(1, 10, 1);
        x.line(1, 10, 1);
        x.arrive(0);
        x.arrive(2);
        x.amend(0, 0, 1000);
        x.amend(0, 0, 1001);
        for (int box = 0; box < 5; box++) {
            x.box(0, box, 1);
        }
        x.land(0, 1);
        x.land(1, 1);
        x.land(2, 1);
        x.land(3, 1);
        x.on(0, 0);
        x.order(0, 0, 0);
        int[] due = {2, 5, 3, 202, 1, 4, 3, 5, 1};
        for (int what = 0; what < due.length; what++) {
            EXPECT.same("what " + what, due[what], x.count(what));
        }
        int[] none = {-1, 9, Integer.MAX_VALUE, Integer.MIN_VALUE};
        for (int what : none) {
            EXPECT.same("what " + what, NONE, x.count(what));
        }
    }

    private static void mastersThatDiffer() {
        BillMatch x = new BillMatch();
        x.bill(0, 1, NONE);
        x.bill(0, 2, 0);
        x.bill(0, 3, 1);
        x.bill(0, 4, 2);
        x.bill(1, 1, NONE);
        x.line(4, 50, 1);
        EXPECT.same("no sums yet", 0, x.count(8));
        x.line(3, 5, 1);
        EXPECT.same("one of depth 3 differs", 1, x.count(8));
        x.line(2, 5, 1);
        EXPECT.same("one of depth 2 differs", 1, x.count(8));
        x.line(1, 5, 1);
        EXPECT.same("the master differs", 1, x.count(8));
        x.line(0, 5, 1);
        EXPECT.same("all agree", 0, x.count(8));
        x.bill(1, 2, 4);
        EXPECT.same("a house without lines", 1, x.count(8));
        x.line(0, 1, 1);
        EXPECT.same("both", 2, x.count(8));
        x.line(2, 9, 1);
        EXPECT.same("a tree that differs twice counts once", 2, x.count(8));
    }
}
