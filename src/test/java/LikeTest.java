/** Promise 16: like. */
public final class LikeTest {
    private static final int NONE = BillMatch.NONE;
    private static final Expect EXPECT = new Expect("promise 16");

    public static void main(String[] args) {
        pairs();
        allOfAFew();
        places();
        wrongInputs();
        EXPECT.end();
    }

    private static void pair(boolean due, int one, int other) {
        BillMatch x = new BillMatch();
        x.bill(2, one, NONE);
        EXPECT.same(one + " and " + other, due ? 0 : NONE, x.like(2, other, 0));
        BillMatch y = new BillMatch();
        y.bill(2, other, NONE);
        EXPECT.same(other + " and " + one, due ? 0 : NONE, y.like(2, one, 0));
    }

    private static void pairs() {
        pair(true, 12345678, 12345678);
        pair(true, 0, 0);
        pair(true, 99999999, 99999999);
        pair(true, 0, 90000000);
        pair(true, 12345678, 12345670);
        pair(true, 12345678, 2345678);
        pair(true, 12345678, 12349678);
        pair(true, 12345678, 21345678);
        pair(true, 12345678, 12354678);
        pair(true, 12345678, 12345687);
        pair(true, 1000000, 10000000);
        pair(true, 1, 10);
        pair(false, 12345678, 12345698 + 1);
        pair(false, 12345678, 14325678);
        pair(false, 12345678, 21345687);
        pair(false, 12345678, 82345671);
        pair(false, 12345678, 23145678);
        pair(false, 12345678, 1234567);
        pair(false, 1, 100);
        pair(false, 0, 11);
        pair(false, 10000000, 1);
        pair(false, 11, 22);
        pair(false, 12001200, 21002100);
    }

    /** A plain second way of telling, over the eight digits one by one. */
    private static boolean plainlyAlike(int one, int other) {
        String a = String.format("%08d", one);
        String b = String.format("%08d", other);
        int differing = 0;
        for (int i = 0; i < 8; i++) {
            differing += a.charAt(i) == b.charAt(i) ? 0 : 1;
        }
        for (int i = 0; i + 1 < 8; i++) {
            String exchanged = a.substring(0, i) + a.charAt(i + 1) + a.charAt(i) + a.substring(i + 2);
            if (exchanged.equals(b)) {
                return true;
            }
        }
        return differing <= 1;
    }

    private static void allOfAFew() {
        int[] scales = {1, 1000, 10000};
        for (int scale : scales) {
            for (int one = 0; one < 1000; one += 7) {
                BillMatch x = new BillMatch();
                x.bill(0, one * scale, NONE);
                for (int other = one % 3; other < 1000; other += 3) {
                    boolean due = plainlyAlike(one * scale, other * scale);
                    EXPECT.same(one + " and " + other + " times " + scale, due ? 0 : NONE, x.like(0, other * scale, 0));
                }
            }
        }
    }

    private static void places() {
        BillMatch x = new BillMatch();
        x.bill(1, 25, NONE);
        x.bill(0, 29, NONE);
        x.bill(0, 77, NONE);
        x.bill(0, 20, 1);
        x.bill(0, 25, NONE);
        x.bill(0, 52, NONE);
        int[] due = {1, 3, 4, 5, NONE};
        for (int i = 0; i < due.length; i++) {
            EXPECT.same("place " + i, due[i], x.like(0, 25, i));
        }
        EXPECT.same("place -1", NONE, x.like(0, 25, -1));
        EXPECT.same("greatest place", NONE, x.like(0, 25, Integer.MAX_VALUE));
        EXPECT.same("another call", 0, x.like(1, 25, 0));
        EXPECT.same("another call has one", NONE, x.like(1, 25, 1));
        EXPECT.same("a call without", NONE, x.like(2, 25, 0));
    }

    private static void wrongInputs() {
        Class<?> illegal = IllegalArgumentException.class;
        EXPECT.thrown("call -1", x -> x.bill(0, 0, NONE), illegal, x -> x.like(-1, 0, 0));
        EXPECT.thrown("call 4", x -> x.bill(0, 0, NONE), illegal, x -> x.like(4, 0, 0));
        EXPECT.thrown("number -1", x -> x.bill(0, 0, NONE), illegal, x -> x.like(0, -1, 0));
        EXPECT.thrown("number too great", x -> x.bill(0, 0, NONE), illegal, x -> x.like(0, 100000000, 0));
    }
}
