/** Promise 7: arrive. */
public final class ArriveTest {
    public static void main(String[] args) {
        Expect expect = new Expect("promise 7");
        BillMatch x = new BillMatch();
        expect.same("call 3", true, x.arrive(3));
        expect.same("bits", 8, x.count(7));
        expect.same("call 3 again", false, x.arrive(3));
        expect.same("call 0", true, x.arrive(0));
        expect.same("bits then", 9, x.count(7));
        int[] none = {-1, 4, 32, 35, -32, Integer.MAX_VALUE, Integer.MIN_VALUE};
        for (int call : none) {
            expect.same("call " + call, false, x.arrive(call));
        }
        expect.same("bits still", 9, x.count(7));
        x.arrive(1);
        x.arrive(2);
        expect.same("all", 15, x.count(7));
        expect.same("boxes may come then", 0, x.box(0, 1, 1));
        expect.same("bills may come then", 0, x.bill(0, 1, -1));
        expect.end();
    }
}
