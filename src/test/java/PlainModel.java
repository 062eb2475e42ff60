import java.util.ArrayList;
import java.util.Arrays;
import java.util.List;
import java.util.NoSuchElementException;
import java.util.TreeSet;

/**
 * The document told a second time, with objects and lists and nothing kept that can be counted anew. Runs of
 * calls are compared with it.
 */
final class PlainModel {
    static final int NONE = -1;

    private static final class Bill {
        int index;
        int call;
        int number;
        Bill above;
        int holder;
        final List<int[]> lines = new ArrayList<>();
    }

    private static final class Box {
        int index;
        int call;
        int number;
        int weight;
        Integer landed;
        Bill orderedBy;
        Box next;
        final TreeSet<Integer> on = new TreeSet<>();
    }

    private final List<Bill> bills = new ArrayList<>();
    private final List<Box> boxes = new ArrayList<>();
    private final TreeSet<Integer> arrived = new TreeSet<>();
    private int penalties;

    private static void legal(boolean condition) {
        if (!condition) {
            throw new IllegalArgumentException();
        }
    }

    private static void state(boolean condition) {
        if (!condition) {
            throw new IllegalStateException();
        }
    }

    private static void inside(boolean condition) {
        if (!condition) {
            throw new IndexOutOfBoundsException();
        }
    }

    private static boolean within(int value, int least, int most) {
        return least <= value && value <= most;
    }

    private Bill billOf(int index) {
        return within(index, 0, bills.size() - 1) ? bills.get(index) : null;
    }

    private Box boxOf(int index) {
        return within(index, 0, boxes.size() - 1) ? boxes.get(index) : null;
    }

    private int allLines() {
        return bills.stream().mapToInt(b -> b.lines.size()).sum();
    }

    private static int own(Bill b) {
        return b.lines.stream().mapToInt(l -> l[0]).sum();
    }

    private static int depth(Bill b) {
        return b.above == null ? 1 : 1 + depth(b.above);
    }

    private static Bill master(Bill b) {
        return b.above == null ? b : master(b.above);
    }

    private long orders(Bill b) {
        return boxes.stream().filter(x -> x.orderedBy == b).count();
    }

    private long under(Bill b) {
        return bills.stream().filter(x -> x.above == b).count();
    }

    private int differs(Bill b) {
        return under(b) == 0 ? 0 : own(b) - bills.stream().filter(x -> x.above == b).mapToInt(PlainModel::own).sum();
    }

    private boolean taken(int call, int number) {
        return bills.stream().anyMatch(b -> b.call == call && b.number == number);
    }

    private Bill newBill(int call, int number, Bill above, int holder) {
        Bill b = new Bill();
        b.index = bills.size();
        b.call = call;
        b.number = number;
        b.above = above;
        b.holder = holder;
        bills.add(b);
        return b;
    }

    int bill(int call, int number, int above) {
        legal(within(call, 0, 3) && within(number, 0, 99999999));
        state(bills.size() < 60);
        Bill a = billOf(above);
        if (above != NONE && (a == null || a.call != call || depth(a) == 4 || orders(a) > 0)) {
            return NONE;
        }
        return taken(call, number) ? NONE : newBill(call, number, a, 0).index;
    }

    int line(int bill, int weight, int pieces) {
        Bill b = billOf(bill);
        legal(b != null && within(weight, 0, 1000000) && within(pieces, 0, 10000));
        state(allLines() < 200);
        b.lines.add(new int[] {weight, pieces});
        return b.lines.size() - 1;
    }

    int box(int call, int number, int weight) {
        legal(within(call, 0, 3) && within(number, 0, 99999999) && within(weight, 0, 1000000));
        state(boxes.size() < 60);
        if (boxes.stream().anyMatch(x -> x.call == call && x.number == number)) {
            return NONE;
        }
        Box x = new Box();
        x.index = boxes.size();
        x.call = call;
        x.number = number;
        x.weight = weight;
        boxes.add(x);
        return x.index;
    }

    boolean on(int box, int bill) {
        Box x = boxOf(box);
        Bill b = billOf(bill);
        if (x == null || b == null || x.call != b.call || x.on.contains(bill) || x.on.size() == 4) {
            return false;
        }
        return x.orderedBy == null && x.on.add(bill);
    }

    boolean land(int box, int weight) {
        Box x = boxOf(box);
        if (x == null || x.landed != null || !within(weight, 0, 1000000)) {
            return false;
        }
        x.landed = weight;
        return true;
    }

    boolean arrive(int call) {
        return within(call, 0, 3) && arrived.add(call);
    }

    int amend(int bill, int line, int weight) {
        Bill b = billOf(bill);
        legal(b != null && within(line, 0, b.lines.size() - 1) && within(weight, 0, 1000000));
        int[] told = b.lines.get(line);
        int before = told[0];
        told[0] = weight;
        if (!arrived.contains(b.call) || before == weight) {
            return 0;
        }
        int penalty = 100 + (Math.max(before, weight) - Math.min(before, weight)) / 1000;
        penalties += penalty;
        return penalty;
    }

    int title(int bill, int from, int to) {
        Bill b = billOf(bill);
        legal(b != null && within(from, 0, 9) && within(to, 0, 9) && from != to);
        if (b.holder != from || orders(b) > 0) {
            return 0;
        }
        b.holder = to;
        return 1;
    }

    int order(int bill, int box, int holder) {
        Bill b = billOf(bill);
        Box x = boxOf(box);
        legal(b != null && x != null && within(holder, 0, 9));
        if (x.orderedBy != null || !x.on.contains(bill) || x.landed == null || b.holder != holder) {
            return 0;
        }
        x.orderedBy = b;
        return 1;
    }

    int split(int bill, int weight) {
        Bill b = billOf(bill);
        legal(b != null && weight >= 1);
        state(bills.size() < 60 && allLines() < 200);
        if (weight >= own(b) || under(b) > 0 || orders(b) > 0) {
            return NONE;
        }
        int number = b.number + 1;
        while (taken(b.call, number)) {
            number++;
        }
        if (number > 99999999) {
            return NONE;
        }
        for (int kilogramsLeft = weight, i = b.lines.size() - 1; kilogramsLeft > 0; i--) {
            int part = Math.min(kilogramsLeft, b.lines.get(i)[0]);
            b.lines.get(i)[0] -= part;
            kilogramsLeft -= part;
        }
        Bill made = newBill(b.call, number, b.above, b.holder);
        made.lines.add(new int[] {weight, 0});
        return made.index;
    }

    private Box before(Box x) {
        return boxes.stream().filter(y -> y.next == x).findFirst().orElse(null);
    }

    boolean leg(int box, int next) {
        Box x = boxOf(box);
        Box y = boxOf(next);
        if (x == null || y == null || x.call == y.call || x.next != null || before(y) != null) {
            return false;
        }
        for (Box z = y; z != null; z = z.next) {
            if (z == x) {
                return false;
            }
        }
        x.next = y;
        return true;
    }

    private int landed(Bill b) {
        int sum = 0;
        for (Box x : boxes) {
            if (x.landed != null && x.on.contains(b.index)) {
                int[] parts = new int[x.on.size()];
                Arrays.fill(parts, x.landed / parts.length);
                for (int i = 0; Arrays.stream(parts).sum() < x.landed; i++) {
                    parts[i]++;
                }
                sum += parts[x.on.headSet(b.index).size()];
            }
        }
        return sum;
    }

    int look(int bill, int what) {
        Bill b = billOf(bill);
        inside(b != null && within(what, 0, 15));
        int[] all = {
            b.call, b.number, b.above == null ? NONE : b.above.index, depth(b), b.lines.size(), own(b),
            b.lines.stream().mapToInt(l -> l[1]).sum(), differs(b), landed(b),
            own(b) > landed(b) ? own(b) - landed(b) : 0, landed(b) > own(b) ? landed(b) - own(b) : 0,
            b.holder, (int) orders(b), (int) under(b),
            (int) boxes.stream().filter(x -> x.on.contains(bill)).count(), master(b).index
        };
        return all[what];
    }

    private static boolean waiting(Box x) {
        return x.landed != null && x.on.isEmpty();
    }

    int seen(int box, int what) {
        Box x = boxOf(box);
        inside(x != null && within(what, 0, 13));
        if (what >= 10) {
            return x.on.stream().skip(what - 10).findFirst().orElseThrow(NoSuchElementException::new);
        }
        Box first = x;
        int weight = x.weight;
        while (before(first) != null) {
            first = before(first);
            weight += first.weight;
        }
        int[] all = {
            x.call, x.number, x.weight, x.landed == null ? NONE : x.landed, x.on.size(), waiting(x) ? 1 : 0,
            x.orderedBy == null ? NONE : x.orderedBy.index, x.next == null ? NONE : x.next.index, first.index, weight
        };
        return all[what];
    }

    int waits(int i) {
        int[] all = boxes.stream().filter(PlainModel::waiting).mapToInt(x -> x.index).toArray();
        return within(i, 0, all.length - 1) ? all[i] : NONE;
    }

    private static boolean alike(int one, int other) {
        char[] a = String.format("%08d", one).toCharArray();
        String b = String.format("%08d", other);
        for (int i = 0; i < 8; i++) {
            char kept = a[i];
            a[i] = b.charAt(i);
            if (new String(a).equals(b)) {
                return true;
            }
            a[i] = kept;
            if (i > 0) {
                char left = a[i - 1];
                a[i - 1] = kept;
                a[i] = left;
                if (new String(a).equals(b)) {
                    return true;
                }
                a[i - 1] = left;
                a[i] = kept;
            }
        }
        return false;
    }

    int like(int call, int number, int i) {
        legal(within(call, 0, 3) && within(number, 0, 99999999));
        int[] all = bills.stream().filter(b -> b.call == call && alike(b.number, number)).mapToInt(b -> b.index).toArray();
        return within(i, 0, all.length - 1) ? all[i] : NONE;
    }

    int count(int what) {
        switch (what) {
            case 0: return bills.size();
            case 1: return boxes.size();
            case 2: return allLines();
            case 3: return penalties;
            case 4: return (int) boxes.stream().filter(x -> x.orderedBy != null).count();
            case 5: return (int) boxes.stream().filter(x -> x.landed != null).count();
            case 6: return (int) boxes.stream().filter(PlainModel::waiting).count();
            case 7: return arrived.stream().mapToInt(call -> 1 << call).sum();
            case 8: return (int) bills.stream().filter(b -> differs(b) != 0).map(PlainModel::master).distinct().count();
            default: return NONE;
        }
    }
}
