/** Promise 1: a new object is empty. */
public final class NewObjectTest {
    public static void main(String[] args) {
        Expect expect = new Expect("promise 1");
        BillMatch x = new BillMatch();
        for (int what = 0; what <= 8; what++) {
            expect.same("count " + what, 0, x.count(what));
        }
        expect.same("waits", BillMatch.NONE, x.waits(0));
        expect.same("like", BillMatch.NONE, x.like(0, 0, 0));
        expect.fails("look", IndexOutOfBoundsException.class, () -> x.look(0, 0));
        expect.fails("seen", IndexOutOfBoundsException.class, () -> x.seen(0, 0));
        expect.same("NONE", -1, BillMatch.NONE);

        BillMatch other = new BillMatch();
        x.bill(0, 1, -1);
        x.box(0, 1, 1);
        x.arrive(2);
        expect.same("objects share nothing", Expect.picture(new BillMatch()), Expect.picture(other));
        expect.end();
    }
}
