/** Promise 5: on. */
public final class OnTest {
    private static final int NONE = BillMatch.NONE;
    private static final Expect EXPECT = new Expect("promise 5");

    public static void main(String[] args) {
        EXPECT.sentence("A box is ON a bill: true", OnTest::isOn);
        EXPECT.sentence("false if there are none such: boxes", OnTest::noSuchBox);
        EXPECT.sentence("false if there are none such: bills", OnTest::noSuchBill);
        EXPECT.sentence("false if there are none such, of one call", OnTest::ofOneCall);
        EXPECT.sentence("it is so", OnTest::itIsSo);
        EXPECT.sentence("the box is on 4", OnTest::onFour);
        EXPECT.sentence("an order was given for it", OnTest::ordered);
        EXPECT.sentence("60 at most", OnTest::lastRows);
        EXPECT.end();
    }

    /** Bills 0 to 4 of call 0 and bill 5 of call 1; box 0 of call 0 on bill 3. */
    private static void five(BillMatch x) {
        for (int bill = 0; bill < 5; bill++) {
            x.bill(0, bill, NONE);
        }
        x.bill(1, 0, NONE);
        x.box(0, 0, 10);
        x.on(0, 3);
    }

    private static void isOn() {
        BillMatch x = new BillMatch();
        five(x);
        EXPECT.same("on 1", true, x.on(0, 1));
        EXPECT.same("bills of the box", 2, x.seen(0, 4));
        EXPECT.same("the first one", 1, x.seen(0, 10));
        EXPECT.same("the second one", 3, x.seen(0, 11));
        EXPECT.same("boxes on 3", 1, x.look(3, 14));
        EXPECT.same("boxes on 2", 0, x.look(2, 14));
        x.box(0, 1, 1);
        EXPECT.same("a second box", true, x.on(1, 3));
        EXPECT.same("boxes on 3 then", 2, x.look(3, 14));
        x.land(1, 1);
        EXPECT.same("a box that has landed", true, x.on(1, 2));
        EXPECT.same("boxes on 2 then", 1, x.look(2, 14));
    }

    private static void noSuchBox() {
        int[] none = {-1, 1, 2, 59, 60, 64, Integer.MAX_VALUE, Integer.MIN_VALUE};
        for (int box : none) {
            EXPECT.denied("box " + box, OnTest::five, x -> x.on(box, 0));
        }
    }

    private static void noSuchBill() {
        int[] none = {-1, 6, 7, 59, 60, 64, Integer.MAX_VALUE, Integer.MIN_VALUE};
        for (int bill : none) {
            EXPECT.denied("bill " + bill, OnTest::five, x -> x.on(0, bill));
        }
        EXPECT.denied("neither box nor bill", Given::nothing, x -> x.on(0, 0));
    }

    private static void ofOneCall() {
        EXPECT.denied("a bill of another call", OnTest::five, x -> x.on(0, 5));
        EXPECT.denied("a box of another call", x -> {
            five(x);
            x.box(1, 0, 1);
        }, x -> x.on(1, 0));
        EXPECT.allowed("both of call 1", x -> {
            five(x);
            x.box(1, 0, 1);
        }, x -> x.on(1, 5));
    }

    private static void itIsSo() {
        EXPECT.denied("a second time", OnTest::five, x -> x.on(0, 3));
        EXPECT.denied("a second time, behind others", x -> {
            five(x);
            x.on(0, 0);
            x.on(0, 4);
        }, x -> x.on(0, 3));
    }

    private static void four(BillMatch x) {
        five(x);
        x.on(0, 1);
        x.on(0, 4);
        x.on(0, 0);
    }

    private static void onFour() {
        BillMatch x = new BillMatch();
        five(x);
        EXPECT.same("a second one", true, x.on(0, 1));
        EXPECT.same("a third one", true, x.on(0, 4));
        EXPECT.same("a fourth one", true, x.on(0, 0));
        EXPECT.same("bills of the box", 4, x.seen(0, 4));
        int[] due = {0, 1, 3, 4};
        for (int place = 0; place < due.length; place++) {
            EXPECT.same("place " + place, due[place], x.seen(0, 10 + place));
        }
        EXPECT.denied("a fifth one", OnTest::four, y -> y.on(0, 2));
        EXPECT.denied("a fifth one of a full object", Given::full, y -> y.on(0, 1));
        EXPECT.allowed("another box on the bill", y -> {
            four(y);
            y.box(0, 1, 1);
        }, y -> y.on(1, 3));
    }

    private static void withAnOrder(BillMatch x) {
        five(x);
        x.land(0, 10);
        x.order(3, 0, 0);
        x.box(0, 1, 5);
    }

    private static void ordered() {
        EXPECT.denied("on another bill", OnTest::withAnOrder, x -> x.on(0, 1));
        EXPECT.denied("on the bill that ordered", OnTest::withAnOrder, x -> x.on(0, 3));
        EXPECT.allowed("another box on the bill that ordered", OnTest::withAnOrder, x -> x.on(1, 3));
        EXPECT.allowed("another box on another bill", OnTest::withAnOrder, x -> x.on(1, 1));
        EXPECT.allowed("landed, without an order", x -> {
            five(x);
            x.land(0, 10);
        }, x -> x.on(0, 1));
    }

    private static void sixty(BillMatch x) {
        for (int i = 0; i < 60; i++) {
            x.bill(0, i, NONE);
            x.box(0, i, 1);
        }
    }

    private static void lastRows() {
        BillMatch x = new BillMatch();
        sixty(x);
        EXPECT.same("the last box on the last bill", true, x.on(59, 59));
        EXPECT.same("and on the first one", true, x.on(59, 0));
        EXPECT.same("least", 0, x.seen(59, 10));
        EXPECT.same("largest", 59, x.seen(59, 11));
        EXPECT.denied("bill 60", OnTest::sixty, y -> y.on(59, 60));
        EXPECT.denied("box 60", OnTest::sixty, y -> y.on(60, 59));
    }
}
