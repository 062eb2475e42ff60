/** Terms: LANDED weight, shared among bills, and what is SHORT and OVER. */
public final class SharesTest {
    private static final int NONE = BillMatch.NONE;
    private static final Expect EXPECT = new Expect("terms, shares");

    public static void main(String[] args) {
        EXPECT.sentence("FLOOR(weight / bills), and one more for as many .. as kilograms are left", SharesTest::small);
        EXPECT.sentence("A box LANDS once, with so many kilograms.", SharesTest::largest);
        EXPECT.sentence("the least numbers first", SharesTest::leastFirst);
        EXPECT.sentence("that of each box on it that has landed", SharesTest::eachBox);
        EXPECT.sentence("SHORT: own weight less landed weight, if it is above 0", SharesTest::isShort);
        EXPECT.sentence("OVER: the other way", SharesTest::isOver);
        EXPECT.sentence("60 at most", SharesTest::allBoxes);
        EXPECT.end();
    }

    /** Bills of falling numbers, the box on the first so many of them. */
    private static BillMatch shared(int kilograms, int bills, boolean landedFirst) {
        BillMatch x = new BillMatch();
        x.box(0, 1, 500);
        if (landedFirst) {
            x.land(0, kilograms);
        }
        for (int bill = 0; bill < 5; bill++) {
            x.bill(0, 100 - bill, NONE);
        }
        for (int bill = bills - 1; bill >= 0; bill--) {
            x.on(0, bill);
        }
        if (!landedFirst) {
            x.land(0, kilograms);
        }
        return x;
    }

    private static void shares(int kilograms, int bills, int... due) {
        BillMatch before = shared(kilograms, bills, true);
        BillMatch behind = shared(kilograms, bills, false);
        for (int bill = 0; bill < 5; bill++) {
            int share = bill < due.length ? due[bill] : 0;
            String what = kilograms + " on " + bills + ", bill " + bill;
            EXPECT.same(what, share, before.look(bill, 8));
            EXPECT.same(what + ", landed at last", share, behind.look(bill, 8));
        }
    }

    private static void small() {
        shares(0, 1, 0);
        shares(0, 4, 0, 0, 0, 0);
        shares(1, 1, 1);
        shares(1, 2, 1, 0);
        shares(2, 2, 1, 1);
        shares(3, 2, 2, 1);
        shares(1, 3, 1, 0, 0);
        shares(2, 3, 1, 1, 0);
        shares(3, 3, 1, 1, 1);
        shares(4, 3, 2, 1, 1);
        shares(1, 4, 1, 0, 0, 0);
        shares(2, 4, 1, 1, 0, 0);
        shares(3, 4, 1, 1, 1, 0);
        shares(4, 4, 1, 1, 1, 1);
        shares(5, 4, 2, 1, 1, 1);
        shares(7, 4, 2, 2, 2, 1);
        shares(8, 4, 2, 2, 2, 2);
    }

    private static void largest() {
        shares(1000000, 1, 1000000);
        shares(1000000, 2, 500000, 500000);
        shares(999999, 2, 500000, 499999);
        shares(1000000, 3, 333334, 333333, 333333);
        shares(1000000, 4, 250000, 250000, 250000, 250000);
        shares(999999, 4, 250000, 250000, 250000, 249999);
    }

    /** The last bill of a full object is behind the first one, whatever came first and whatever their own numbers are. */
    private static void leastFirst() {
        BillMatch x = new BillMatch();
        for (int bill = 0; bill < 60; bill++) {
            x.bill(0, 1000 - bill, NONE);
        }
        x.box(0, 1, 1);
        x.land(0, 6);
        x.on(0, 59);
        EXPECT.same("alone", 6, x.look(59, 8));
        x.on(0, 31);
        EXPECT.same("of two, first", 3, x.look(31, 8));
        EXPECT.same("of two, second", 3, x.look(59, 8));
        x.on(0, 0);
        x.on(0, 32);
        int[] bills = {0, 31, 32, 59, 1};
        int[] due = {2, 2, 1, 1, 0};
        for (int i = 0; i < bills.length; i++) {
            EXPECT.same("of four, bill " + bills[i], due[i], x.look(bills[i], 8));
        }
    }

    private static void eachBox() {
        BillMatch x = new BillMatch();
        x.bill(0, 1, NONE);
        x.bill(0, 2, 0);
        for (int box = 0; box < 3; box++) {
            x.box(0, box, 1000);
        }
        x.on(0, 1);
        EXPECT.same("not landed", 0, x.look(1, 8));
        x.land(0, 7);
        x.land(2, 100);
        EXPECT.same("landed", 7, x.look(1, 8));
        x.on(1, 1);
        EXPECT.same("another one, not landed", 7, x.look(1, 8));
        x.land(1, 40);
        EXPECT.same("both", 47, x.look(1, 8));
        x.on(1, 0);
        EXPECT.same("the second one shared", 27, x.look(1, 8));
        EXPECT.same("not what landed for the bill under it", 20, x.look(0, 8));
    }

    private static BillMatch weighed(int own, int landed) {
        BillMatch x = new BillMatch();
        x.bill(0, 1, NONE);
        x.line(0, own, 1);
        x.box(0, 1, 5);
        x.on(0, 0);
        x.land(0, landed);
        return x;
    }

    private static void isShort() {
        EXPECT.same("a kilogram", 1, weighed(100, 99).look(0, 9));
        EXPECT.same("nothing", 0, weighed(100, 100).look(0, 9));
        EXPECT.same("a kilogram too much", 0, weighed(100, 101).look(0, 9));
        EXPECT.same("all", 1000000, weighed(1000000, 0).look(0, 9));
        EXPECT.same("none", 0, weighed(0, 1000000).look(0, 9));
        EXPECT.answers("no box", x -> {
            x.bill(0, 1, NONE);
            x.line(0, 7, 1);
        }, 7, x -> x.look(0, 9));
    }

    private static void isOver() {
        EXPECT.same("a kilogram", 1, weighed(100, 101).look(0, 10));
        EXPECT.same("nothing", 0, weighed(100, 100).look(0, 10));
        EXPECT.same("a kilogram too little", 0, weighed(100, 99).look(0, 10));
        EXPECT.same("all", 1000000, weighed(0, 1000000).look(0, 10));
        EXPECT.same("none", 0, weighed(1000000, 0).look(0, 10));
        EXPECT.answers("no line", x -> {
            x.bill(0, 1, NONE);
            x.box(0, 1, 1);
            x.on(0, 0);
            x.land(0, 8);
        }, 8, x -> x.look(0, 10));
    }

    private static void allBoxes() {
        BillMatch x = new BillMatch();
        x.bill(0, 1, NONE);
        for (int box = 0; box < 60; box++) {
            x.box(0, box, 0);
            x.on(box, 0);
            x.land(box, 1000000);
        }
        EXPECT.same("landed", 60000000, x.look(0, 8));
        EXPECT.same("over", 60000000, x.look(0, 10));
        EXPECT.same("boxes on it", 60, x.look(0, 14));
    }
}
