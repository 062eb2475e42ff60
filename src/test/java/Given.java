/** Histories of objects that several tests begin with. */
final class Given {
    private static final int NONE = BillMatch.NONE;

    private Given() {
    }

    static void nothing(BillMatch x) {
        // An object on which nothing was done.
    }

    /** Bills 0 to 3 of call 0, each under the one before: depths 1 to 4. */
    static void chain(BillMatch x) {
        x.bill(0, 10, NONE);
        x.bill(0, 11, 0);
        x.bill(0, 12, 1);
        x.bill(0, 13, 2);
    }

    static void sixtyBills(BillMatch x) {
        for (int bill = 0; bill < 60; bill++) {
            x.bill(bill % 4, bill, NONE);
        }
    }

    static void sixtyBoxes(BillMatch x) {
        for (int box = 0; box < 60; box++) {
            x.box(box % 4, box, 1000 + box);
        }
    }

    /** Lines of 1 to 200 kilograms, in turns of the bills that are there. */
    static void twoHundredLines(BillMatch x) {
        int bills = x.count(0);
        for (int line = 0; line < 200; line++) {
            x.line(line % bills, line + 1, line);
        }
    }

    /**
     * 60 bills of call 0, the first four of depths 1 to 4, the others under bill 2; 200 lines; 60 boxes, of call 0
     * but for the last one; box 0 on 4 bills, landed and ordered by bill 3; box 1 landed and waiting.
     */
    static void full(BillMatch x) {
        chain(x);
        for (int bill = 4; bill < 60; bill++) {
            x.bill(0, 10 + bill, 2);
        }
        for (int box = 0; box < 60; box++) {
            x.box(box < 59 ? 0 : 1, box, box);
        }
        twoHundredLines(x);
        x.on(0, 3);
        x.on(0, 5);
        x.on(0, 0);
        x.on(0, 59);
        x.land(0, 1003);
        x.land(1, 77);
        x.order(3, 0, 0);
    }
}
