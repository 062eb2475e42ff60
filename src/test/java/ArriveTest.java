/** Promise 7: arrive. */
public final class ArriveTest {
    private static final Expect EXPECT = new Expect("promise 7");

    public static void main(String[] args) {
        EXPECT.sentence("A call has arrived: true", ArriveTest::hasArrived);
        EXPECT.sentence("false if there is none such", ArriveTest::noneSuch);
        EXPECT.sentence("false if .. it had", ArriveTest::itHad);
        EXPECT.end();
    }

    private static void hasArrived() {
        BillMatch x = new BillMatch();
        int[] bits = {8, 9, 13, 15};
        int[] calls = {3, 0, 2, 1};
        for (int i = 0; i < 4; i++) {
            EXPECT.same("call " + calls[i], true, x.arrive(calls[i]));
            EXPECT.same("bits with " + calls[i], bits[i], x.count(7));
        }
        EXPECT.same("boxes may come then", 0, x.box(0, 1, 1));
        EXPECT.same("bills may come then", 0, x.bill(0, 1, -1));
    }

    /** 32 and 35, -32 and -29 would be the bits of calls 0 and 3 if they wrapped round. */
    private static void noneSuch() {
        int[] none = {-1, 4, 5, 31, 32, 35, -29, -32, Integer.MAX_VALUE, Integer.MIN_VALUE};
        for (int call : none) {
            EXPECT.denied("call " + call, Given::nothing, x -> x.arrive(call));
            EXPECT.denied("call " + call + " behind others", x -> x.arrive(1), x -> x.arrive(call));
        }
    }

    private static void itHad() {
        for (int i = 0; i < 4; i++) {
            int call = i;
            EXPECT.denied("call " + i, x -> x.arrive(call), x -> x.arrive(call));
            EXPECT.allowed("another than " + i, x -> x.arrive(call), x -> x.arrive((call + 1) % 4));
        }
    }
}
