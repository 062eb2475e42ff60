/** Promise 16: like. */
public final class LikeTest {
    private static final int NONE = BillMatch.NONE;
    private static final Class<?> ILLEGAL = IllegalArgumentException.class;
    private static final Expect EXPECT = new Expect("promise 16");

    public static void main(String[] args) {
        EXPECT.sentence("they differ in one digit", LikeTest::oneDigit);
        EXPECT.sentence("two digits that stand beside each other are exchanged", LikeTest::exchanged);
        EXPECT.sentence("or they are the same", LikeTest::theSame);
        EXPECT.sentence("written with eight digits", LikeTest::eightDigits);
        EXPECT.sentence("NUMBERS ARE ALIKE if", LikeTest::notAlike);
        EXPECT.sentence("NUMBERS ARE ALIKE if", LikeTest::allOfAFew);
        EXPECT.sentence("The i-th bill of a call", LikeTest::places);
        EXPECT.sentence("NONE without", LikeTest::without);
        EXPECT.sentence("IllegalArgumentException if there is no such call", LikeTest::noSuchCall);
        EXPECT.sentence("IllegalArgumentException if there is no such .. number", LikeTest::noSuchNumber);
        EXPECT.sentence("60 at most", LikeTest::sixty);
        EXPECT.end();
    }

    private static void pair(boolean due, int one, int other) {
        EXPECT.answers(one + " and " + other, x -> x.bill(2, one, NONE), due ? 0 : NONE, x -> x.like(2, other, 0));
        EXPECT.answers(other + " and " + one, x -> x.bill(2, other, NONE), due ? 0 : NONE, x -> x.like(2, one, 0));
    }

    private static void oneDigit() {
        int place = 1;
        for (int digit = 0; digit < 8; digit++) {
            pair(true, 11111111, 11111111 + place);
            pair(true, 0, 9 * place);
            pair(true, 99999999, 99999999 - 9 * place);
            pair(true, 55555555, 55555555 - 5 * place);
            place *= 10;
        }
    }

    private static void exchanged() {
        int place = 1;
        for (int digit = 0; digit < 7; digit++) {
            pair(true, place, 10 * place);
            pair(true, 55555555 + 12 * place, 55555555 + 21 * place);
            pair(true, 9 * place, 90 * place);
            place *= 10;
        }
        pair(true, 12345678, 21345678);
        pair(true, 12345678, 12354678);
        pair(true, 12345678, 12345687);
    }

    private static void theSame() {
        pair(true, 12345678, 12345678);
        pair(true, 0, 0);
        pair(true, 99999999, 99999999);
        pair(true, 11111111, 11111111);
    }

    private static void eightDigits() {
        pair(true, 0, 90000000);
        pair(true, 12345678, 2345678);
        pair(true, 1000000, 10000000);
        pair(true, 1, 10);
        pair(true, 1, 0);
        pair(true, 7, 70);
        pair(false, 12345678, 1234567);
        pair(false, 10000000, 1);
        pair(false, 1, 100);
    }

    private static void notAlike() {
        pair(false, 12345678, 12345689);
        pair(false, 12345678, 14325678);
        pair(false, 12345678, 21345687);
        pair(false, 12345678, 21435678);
        pair(false, 12345678, 82345671);
        pair(false, 12345678, 23145678);
        pair(false, 12345678, 13245679);
        pair(false, 0, 11);
        pair(false, 11, 22);
        pair(false, 12, 22 + 9);
        pair(false, 12001200, 21002100);
        pair(false, 0, 99999999);
        pair(false, 0, 90000009);
    }

    /** A plain second way of telling, over the eight digits one by one. */
    private static boolean plainlyAlike(int one, int other) {
        String a = String.format("%08d", one);
        String b = String.format("%08d", other);
        int differing = 0;
        for (int i = 0; i < 8; i++) {
            differing += a.charAt(i) == b.charAt(i) ? 0 : 1;
        }
        for (int i = 0; i + 1 < 8; i++) {
            String exchanged = a.substring(0, i) + a.charAt(i + 1) + a.charAt(i) + a.substring(i + 2);
            if (exchanged.equals(b)) {
                return true;
            }
        }
        return differing <= 1;
    }

    private static void allOfAFew() {
        int[] scales = {1, 1000, 10000};
        for (int scale : scales) {
            for (int one = 0; one < 1000; one += 7) {
                BillMatch x = new BillMatch();
                x.bill(0, one * scale, NONE);
                for (int other = one % 3; other < 1000; other += 3) {
                    boolean due = plainlyAlike(one * scale, other * scale);
                    EXPECT.same(one + " and " + other + " times " + scale, due ? 0 : NONE, x.like(0, other * scale, 0));
                }
            }
        }
    }

    private static void some(BillMatch x) {
        x.bill(1, 25, NONE);
        x.bill(0, 29, NONE);
        x.bill(0, 77, NONE);
        x.bill(0, 20, 1);
        x.bill(0, 25, NONE);
        x.bill(0, 52, NONE);
        x.box(2, 25, 1);
    }

    private static void places() {
        int[] due = {1, 3, 4, 5};
        for (int place = 0; place < due.length; place++) {
            int i = place;
            EXPECT.answers("place " + i, LikeTest::some, due[i], x -> x.like(0, 25, i));
        }
        EXPECT.answers("another call", LikeTest::some, 0, x -> x.like(1, 25, 0));
    }

    private static void without() {
        int[] none = {4, 5, 60, -1, -2, Integer.MAX_VALUE, Integer.MIN_VALUE};
        for (int i : none) {
            EXPECT.refused("place " + i, LikeTest::some, NONE, x -> x.like(0, 25, i));
            EXPECT.refused("place " + i + " of none", Given::nothing, NONE, x -> x.like(0, 25, i));
        }
        EXPECT.refused("one alone in another call", LikeTest::some, NONE, x -> x.like(1, 25, 1));
        EXPECT.refused("a call with a box alone", LikeTest::some, NONE, x -> x.like(2, 25, 0));
        EXPECT.refused("no such in the call", LikeTest::some, NONE, x -> x.like(0, 99999999, 0));
    }

    private static void noSuchCall() {
        int[] none = {-1, 4, 5, Integer.MAX_VALUE, Integer.MIN_VALUE};
        for (int call : none) {
            EXPECT.thrown("call " + call, LikeTest::some, ILLEGAL, x -> x.like(call, 25, 0));
            EXPECT.thrown("call " + call + ", no place", LikeTest::some, ILLEGAL, x -> x.like(call, 25, -1));
        }
        EXPECT.answers("the largest one", x -> x.bill(3, 25, NONE), 0, x -> x.like(3, 25, 0));
    }

    private static void noSuchNumber() {
        int[] none = {-1, 100000000, Integer.MAX_VALUE, Integer.MIN_VALUE};
        for (int number : none) {
            EXPECT.thrown("number " + number, LikeTest::some, ILLEGAL, x -> x.like(0, number, 0));
            EXPECT.thrown("number " + number + " of none", Given::nothing, ILLEGAL, x -> x.like(0, number, 0));
        }
        EXPECT.answers("the least one", LikeTest::some, 3, x -> x.like(0, 0, 0));
        EXPECT.answers("the largest one", x -> x.bill(0, 99999999, NONE), 0, x -> x.like(0, 99999999, 0));
    }

    /** Each bill's number differs from 0 in the last digit, the one before it, and so on. */
    private static void manyAlike(BillMatch x) {
        int place = 1;
        for (int bill = 0; bill < 60; bill++) {
            x.bill(0, (bill % 9 + 1) * place, NONE);
            place *= bill % 9 == 8 ? 10 : 1;
        }
    }

    private static void sixty() {
        BillMatch x = new BillMatch();
        manyAlike(x);
        for (int i = 0; i < 60; i++) {
            EXPECT.same("place " + i, i, x.like(0, 0, i));
        }
        EXPECT.same("place 60", NONE, x.like(0, 0, 60));
    }
}
