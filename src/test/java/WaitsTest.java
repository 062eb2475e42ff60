/** Promise 15: waits. */
public final class WaitsTest {
    private static final int NONE = BillMatch.NONE;

    public static void main(String[] args) {
        Expect expect = new Expect("promise 15");
        BillMatch x = new BillMatch();
        x.bill(0, 1, NONE);
        for (int box = 0; box < 6; box++) {
            x.box(0, 10 - box, 1);
        }
        x.land(5, 1);
        x.land(3, 1);
        x.land(1, 1);
        x.land(4, 1);
        x.on(3, 0);
        int[] due = {1, 4, 5, NONE};
        for (int i = 0; i < due.length; i++) {
            expect.same("waits " + i, due[i], x.waits(i));
        }
        expect.same("how many", 3, x.count(6));
        int[] none = {-1, 60, Integer.MAX_VALUE, Integer.MIN_VALUE};
        for (int i : none) {
            expect.same("waits " + i, NONE, x.waits(i));
        }
        x.on(1, 0);
        expect.same("the first one then", 4, x.waits(0));
        expect.same("the second one then", 5, x.waits(1));
        x.land(0, 1);
        expect.same("box 0", 0, x.waits(0));
        expect.same("how many then", 3, x.count(6));
        expect.end();
    }
}
