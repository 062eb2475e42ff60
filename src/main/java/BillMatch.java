import java.util.NoSuchElementException;

/**
 * Bills of lading and boxes of four ships' calls: which bills stand under which, which boxes are on
 * them, what landed, and who may order it.
 *
 * <p>All rows are made with the object and only filled later, so that no call makes anything but the
 * exception that it throws.
 */
public final class BillMatch {
    /** None. */
    public static final int NONE = -1;

    private static final int CALLS = 4;
    private static final int HOLDERS = 10;
    private static final int FIRST_HOLDER = 0;
    private static final int LAST_NUMBER = 99999999;
    private static final int DIGITS = 8;
    private static final int MOST_BILLS = 60;
    private static final int MOST_LINES = 200;
    private static final int MOST_BOXES = 60;
    private static final int MOST_BILLS_OF_A_BOX = 4;
    private static final int MOST_DEPTH = 4;
    private static final int MOST_WEIGHT = 1000000;
    private static final int MOST_PIECES = 10000;
    private static final int PENALTY = 100;
    private static final int PENALTY_STEP = 1000;
    private static final int FIRST_WHAT_OF_BILLS = 10;
    private static final int LAST_WHAT_OF_A_BOX = FIRST_WHAT_OF_BILLS + MOST_BILLS_OF_A_BOX - 1;

    private final Bills bills;
    private final Lines lines;
    private final Boxes boxes;
    private int arrivedCalls;
    private int penalties;

    public BillMatch() {
        bills = new Bills();
        lines = new Lines();
        boxes = new Boxes();
        arrivedCalls = 0;
        penalties = 0;
    }

    public int bill(int call, int number, int above) throws IllegalArgumentException, IllegalStateException {
        if (!isCall(call) || !isNumber(number)) {
            throw new IllegalArgumentException("no such call or number");
        }
        if (bills.isFull()) {
            throw new IllegalStateException("all bills are there");
        }
        if (!bills.mayStandUnder(call, above) || bills.isTaken(call, number)) {
            return NONE;
        }
        return bills.add(call, number, above, FIRST_HOLDER);
    }

    public int line(int bill, int weight, int pieces) throws IllegalArgumentException, IllegalStateException {
        if (!bills.has(bill) || !isWeight(weight) || pieces < 0 || pieces > MOST_PIECES) {
            throw new IllegalArgumentException("no such bill, weight or pieces");
        }
        if (lines.isFull()) {
            throw new IllegalStateException("all lines are there");
        }
        return lines.add(bill, weight, pieces);
    }

    public int box(int call, int number, int weight) throws IllegalArgumentException, IllegalStateException {
        if (!isCall(call) || !isNumber(number) || !isWeight(weight)) {
            throw new IllegalArgumentException("no such call, number or weight");
        }
        if (boxes.isFull()) {
            throw new IllegalStateException("all boxes are there");
        }
        if (boxes.isTaken(call, number)) {
            return NONE;
        }
        return boxes.add(call, number, weight);
    }

    public boolean on(int box, int bill) {
        if (!boxes.has(box) || !bills.has(bill) || boxes.call[box] != bills.call[bill]) {
            return false;
        }
        if (boxes.isOn(box, bill) || boxes.billsOf(box) >= MOST_BILLS_OF_A_BOX || boxes.isOrdered(box)) {
            return false;
        }
        boxes.putOn(box, bill);
        return true;
    }

    public boolean land(int box, int weight) {
        if (!boxes.has(box) || boxes.hasLanded(box) || !isWeight(weight)) {
            return false;
        }
        boxes.landed[box] = weight;
        return true;
    }

    public boolean arrive(int call) {
        if (!isCall(call) || hasArrived(call)) {
            return false;
        }
        arrivedCalls |= 1 << call;
        return true;
    }

    public int amend(int bill, int line, int weight) throws IllegalArgumentException {
        int row = bills.has(bill) ? lines.rowOf(bill, line) : NONE;
        if (row == NONE || !isWeight(weight)) {
            throw new IllegalArgumentException("no such bill, line or weight");
        }
        int change = lines.changeWeight(row, weight);
        if (change == 0 || !hasArrived(bills.call[bill])) {
            return 0;
        }
        int penalty = PENALTY + Math.abs(change) / PENALTY_STEP;
        penalties += penalty;
        return penalty;
    }

    public int title(int bill, int from, int to) throws IllegalArgumentException {
        if (!bills.has(bill) || !isHolder(from) || !isHolder(to) || from == to) {
            throw new IllegalArgumentException("no such bill or holder, or both are one");
        }
        if (bills.holder[bill] != from || bills.isOrdered(bill)) {
            return 0;
        }
        bills.holder[bill] = to;
        return 1;
    }

    public int order(int bill, int box, int holder) throws IllegalArgumentException {
        if (!bills.has(bill) || !boxes.has(box) || !isHolder(holder)) {
            throw new IllegalArgumentException("no such bill, box or holder");
        }
        if (boxes.isOrdered(box) || !boxes.isOn(box, bill) || !boxes.hasLanded(box)) {
            return 0;
        }
        if (bills.holder[bill] != holder) {
            return 0;
        }
        boxes.orderedBy[box] = bill;
        bills.orders[bill]++;
        return 1;
    }

    public int split(int bill, int weight) throws IllegalArgumentException, IllegalStateException {
        if (!bills.has(bill) || weight < 1) {
            throw new IllegalArgumentException("no such bill, or less than a kilogram");
        }
        if (bills.isFull() || lines.isFull()) {
            throw new IllegalStateException("all bills or all lines are there");
        }
        if (weight >= lines.weightOf[bill] || bills.under(bill) > 0 || bills.isOrdered(bill)) {
            return NONE;
        }
        int number = bills.nextFreeNumber(bill);
        if (number == NONE) {
            return NONE;
        }
        lines.take(bill, weight);
        int part = bills.add(bills.call[bill], number, bills.above[bill], bills.holder[bill]);
        lines.add(part, weight, 0);
        return part;
    }

    public boolean leg(int box, int next) {
        if (!boxes.has(box) || !boxes.has(next) || boxes.call[box] == boxes.call[next]) {
            return false;
        }
        if (boxes.next[box] != NONE || boxes.before[next] != NONE || boxes.first(box) == next) {
            return false;
        }
        boxes.next[box] = next;
        boxes.before[next] = box;
        return true;
    }

    public int look(int bill, int what) throws IndexOutOfBoundsException {
        if (!bills.has(bill)) {
            throw new IndexOutOfBoundsException("no such bill");
        }
        switch (what) {
            case 0: return bills.call[bill];
            case 1: return bills.number[bill];
            case 2: return bills.above[bill];
            case 3: return bills.depth[bill];
            case 4: return lines.linesOf[bill];
            case 5: return lines.weightOf[bill];
            case 6: return lines.piecesOf[bill];
            case 7: return difference(bill);
            case 8: return boxes.landedOf(bill);
            case 9: return Math.max(lines.weightOf[bill] - boxes.landedOf(bill), 0);
            case 10: return Math.max(boxes.landedOf(bill) - lines.weightOf[bill], 0);
            case 11: return bills.holder[bill];
            case 12: return bills.orders[bill];
            case 13: return bills.under(bill);
            case 14: return boxes.boxesOn(bill);
            case 15: return bills.master[bill];
            default: throw new IndexOutOfBoundsException("no such what");
        }
    }

    public int seen(int box, int what) throws IndexOutOfBoundsException, NoSuchElementException {
        if (!boxes.has(box) || what < 0 || what > LAST_WHAT_OF_A_BOX) {
            throw new IndexOutOfBoundsException("no such box or what");
        }
        switch (what) {
            case 0: return boxes.call[box];
            case 1: return boxes.number[box];
            case 2: return boxes.weight[box];
            case 3: return boxes.landed[box];
            case 4: return boxes.billsOf(box);
            case 5: return boxes.isWaiting(box) ? 1 : 0;
            case 6: return boxes.orderedBy[box];
            case 7: return boxes.next[box];
            case 8: return boxes.first(box);
            case 9: return boxes.weightSoFar(box);
            default: break;
        }
        int bill = boxes.billAt(box, what - FIRST_WHAT_OF_BILLS);
        if (bill == NONE) {
            throw new NoSuchElementException("the box is on less bills");
        }
        return bill;
    }

    public int waits(int i) {
        int met = 0;
        for (int box = 0; box < boxes.size; box++) {
            if (boxes.isWaiting(box)) {
                if (met == i) {
                    return box;
                }
                met++;
            }
        }
        return NONE;
    }

    public int like(int call, int number, int i) throws IllegalArgumentException {
        if (!isCall(call) || !isNumber(number)) {
            throw new IllegalArgumentException("no such call or number");
        }
        int met = 0;
        for (int bill = 0; bill < bills.size; bill++) {
            if (bills.call[bill] == call && areAlike(bills.number[bill], number)) {
                if (met == i) {
                    return bill;
                }
                met++;
            }
        }
        return NONE;
    }

    public int count(int what) {
        switch (what) {
            case 0: return bills.size;
            case 1: return boxes.size;
            case 2: return lines.size;
            case 3: return penalties;
            case 4: return boxes.orderedOnes();
            case 5: return boxes.landedOnes();
            case 6: return boxes.waitingOnes();
            case 7: return arrivedCalls;
            case 8: return mastersThatDiffer();
            default: return NONE;
        }
    }

    private boolean hasArrived(int call) {
        return (arrivedCalls & (1 << call)) != 0;
    }

    /** By how much a bill's own weight differs from those directly under it. */
    private int difference(int bill) {
        int under = 0;
        int weightUnder = 0;
        for (int other = 0; other < bills.size; other++) {
            if (bills.above[other] == bill) {
                under++;
                weightUnder += lines.weightOf[other];
            }
        }
        return under == 0 ? 0 : lines.weightOf[bill] - weightUnder;
    }

    private int mastersThatDiffer() {
        int differing = 0;
        for (int bill = 0; bill < bills.size; bill++) {
            if (bills.master[bill] == bill && someOneDiffers(bill)) {
                differing++;
            }
        }
        return differing;
    }

    private boolean someOneDiffers(int master) {
        for (int bill = 0; bill < bills.size; bill++) {
            if (bills.master[bill] == master && difference(bill) != 0) {
                return true;
            }
        }
        return false;
    }

    private static boolean isCall(int call) {
        return call >= 0 && call < CALLS;
    }

    private static boolean isNumber(int number) {
        return number >= 0 && number <= LAST_NUMBER;
    }

    private static boolean isWeight(int weight) {
        return weight >= 0 && weight <= MOST_WEIGHT;
    }

    private static boolean isHolder(int holder) {
        return holder >= 0 && holder < HOLDERS;
    }

    /** Cuts off the last digits as long as they agree, so that only what stands before them matters. */
    private static boolean areAlike(int one, int other) {
        int a = one;
        int b = other;
        for (int digit = 0; digit < DIGITS && a % 10 == b % 10; digit++) {
            a /= 10;
            b /= 10;
        }
        if (a / 10 == b / 10) {
            return true;
        }
        return a % 10 == b / 10 % 10 && a / 10 % 10 == b % 10 && a / 100 == b / 100;
    }

    /** The bills' rows. Depth and master are kept, for a bill never moves to another place. */
    private static final class Bills {
        int size;
        final int[] call;
        final int[] number;
        final int[] above;
        final int[] depth;
        final int[] master;
        final int[] holder;
        final int[] orders;

        Bills() {
            size = 0;
            call = new int[MOST_BILLS];
            number = new int[MOST_BILLS];
            above = new int[MOST_BILLS];
            depth = new int[MOST_BILLS];
            master = new int[MOST_BILLS];
            holder = new int[MOST_BILLS];
            orders = new int[MOST_BILLS];
        }

        boolean has(int bill) {
            return bill >= 0 && bill < size;
        }

        boolean isFull() {
            return size >= MOST_BILLS;
        }

        boolean isOrdered(int bill) {
            return orders[bill] > 0;
        }

        boolean isTaken(int ofCall, int wanted) {
            for (int bill = 0; bill < size; bill++) {
                if (call[bill] == ofCall && number[bill] == wanted) {
                    return true;
                }
            }
            return false;
        }

        boolean mayStandUnder(int ofCall, int other) {
            if (other == NONE) {
                return true;
            }
            return has(other) && call[other] == ofCall && depth[other] < MOST_DEPTH && !isOrdered(other);
        }

        int add(int ofCall, int itsNumber, int other, int itsHolder) {
            int bill = size;
            call[bill] = ofCall;
            number[bill] = itsNumber;
            above[bill] = other;
            depth[bill] = has(other) ? depth[other] + 1 : 1;
            master[bill] = has(other) ? master[other] : bill;
            holder[bill] = itsHolder;
            orders[bill] = 0;
            size++;
            return bill;
        }

        /** The bills of a call can't take more numbers than there are bills, so that many steps are enough. */
        int nextFreeNumber(int bill) {
            for (int step = 1; step <= MOST_BILLS; step++) {
                int candidate = number[bill] + step;
                if (candidate > LAST_NUMBER) {
                    return NONE;
                }
                if (!isTaken(call[bill], candidate)) {
                    return candidate;
                }
            }
            return NONE;
        }

        int under(int bill) {
            int found = 0;
            for (int other = 0; other < size; other++) {
                if (above[other] == bill) {
                    found++;
                }
            }
            return found;
        }
    }

    /** The lines of all bills, in the order in which they came, and each bill's sums of them. */
    private static final class Lines {
        int size;
        final int[] bill;
        final int[] weight;
        final int[] linesOf;
        final int[] weightOf;
        final int[] piecesOf;

        Lines() {
            size = 0;
            bill = new int[MOST_LINES];
            weight = new int[MOST_LINES];
            linesOf = new int[MOST_BILLS];
            weightOf = new int[MOST_BILLS];
            piecesOf = new int[MOST_BILLS];
        }

        boolean isFull() {
            return size >= MOST_LINES;
        }

        /** Which one of its bill the new line is. The pieces never change, so only their sum is kept. */
        int add(int ofBill, int itsWeight, int itsPieces) {
            bill[size] = ofBill;
            weight[size] = itsWeight;
            size++;
            weightOf[ofBill] += itsWeight;
            piecesOf[ofBill] += itsPieces;
            linesOf[ofBill]++;
            return linesOf[ofBill] - 1;
        }

        int rowOf(int ofBill, int line) {
            int met = 0;
            for (int row = 0; row < size; row++) {
                if (bill[row] == ofBill) {
                    if (met == line) {
                        return row;
                    }
                    met++;
                }
            }
            return NONE;
        }

        int changeWeight(int row, int newWeight) {
            int change = newWeight - weight[row];
            weight[row] = newWeight;
            weightOf[bill[row]] += change;
            return change;
        }

        void take(int ofBill, int kilograms) {
            int left = kilograms;
            for (int row = size - 1; row >= 0 && left > 0; row--) {
                if (bill[row] == ofBill) {
                    int part = Math.min(left, weight[row]);
                    changeWeight(row, weight[row] - part);
                    left -= part;
                }
            }
        }
    }

    /** The boxes' rows. The bills of a box are bits of one number, which keeps them in their order. */
    private static final class Boxes {
        int size;
        final int[] call;
        final int[] number;
        final int[] weight;
        final int[] landed;
        final long[] bills;
        final int[] orderedBy;
        final int[] next;
        final int[] before;

        Boxes() {
            size = 0;
            call = new int[MOST_BOXES];
            number = new int[MOST_BOXES];
            weight = new int[MOST_BOXES];
            landed = new int[MOST_BOXES];
            bills = new long[MOST_BOXES];
            orderedBy = new int[MOST_BOXES];
            next = new int[MOST_BOXES];
            before = new int[MOST_BOXES];
        }

        boolean has(int box) {
            return box >= 0 && box < size;
        }

        boolean isFull() {
            return size >= MOST_BOXES;
        }

        boolean isTaken(int ofCall, int wanted) {
            for (int box = 0; box < size; box++) {
                if (call[box] == ofCall && number[box] == wanted) {
                    return true;
                }
            }
            return false;
        }

        int add(int ofCall, int itsNumber, int itsWeight) {
            int box = size;
            call[box] = ofCall;
            number[box] = itsNumber;
            weight[box] = itsWeight;
            landed[box] = NONE;
            bills[box] = 0L;
            orderedBy[box] = NONE;
            next[box] = NONE;
            before[box] = NONE;
            size++;
            return box;
        }

        boolean isOn(int box, int bill) {
            return (bills[box] & (1L << bill)) != 0L;
        }

        void putOn(int box, int bill) {
            bills[box] |= 1L << bill;
        }

        int billsOf(int box) {
            return Long.bitCount(bills[box]);
        }

        int billAt(int box, int place) {
            int met = 0;
            for (int bill = 0; bill < MOST_BILLS; bill++) {
                if (isOn(box, bill)) {
                    if (met == place) {
                        return bill;
                    }
                    met++;
                }
            }
            return NONE;
        }

        boolean hasLanded(int box) {
            return landed[box] != NONE;
        }

        boolean isOrdered(int box) {
            return orderedBy[box] != NONE;
        }

        boolean isWaiting(int box) {
            return hasLanded(box) && bills[box] == 0L;
        }

        int boxesOn(int bill) {
            int found = 0;
            for (int box = 0; box < size; box++) {
                if (isOn(box, bill)) {
                    found++;
                }
            }
            return found;
        }

        int landedOf(int bill) {
            int sum = 0;
            for (int box = 0; box < size; box++) {
                if (isOn(box, bill) && hasLanded(box)) {
                    sum += share(box, bill);
                }
            }
            return sum;
        }

        /** The kilograms that are left over go to the least bills, so it matters how many stand before. */
        int share(int box, int bill) {
            int among = billsOf(box);
            if (among == 0) {
                return 0;
            }
            int billsBefore = Long.bitCount(bills[box] & ((1L << bill) - 1L));
            return landed[box] / among + (billsBefore < landed[box] % among ? 1 : 0);
        }

        /** No rings are let in, so the way back along legs is shorter than the number of boxes. */
        int first(int box) {
            int first = box;
            for (int step = 0; step < MOST_BOXES && has(before[first]); step++) {
                first = before[first];
            }
            return first;
        }

        int weightSoFar(int box) {
            int at = box;
            int sum = weight[box];
            for (int step = 0; step < MOST_BOXES && has(before[at]); step++) {
                at = before[at];
                sum += weight[at];
            }
            return sum;
        }

        int landedOnes() {
            int found = 0;
            for (int box = 0; box < size; box++) {
                if (hasLanded(box)) {
                    found++;
                }
            }
            return found;
        }

        int orderedOnes() {
            int found = 0;
            for (int box = 0; box < size; box++) {
                if (isOrdered(box)) {
                    found++;
                }
            }
            return found;
        }

        int waitingOnes() {
            int found = 0;
            for (int box = 0; box < size; box++) {
                if (isWaiting(box)) {
                    found++;
                }
            }
            return found;
        }
    }
}
