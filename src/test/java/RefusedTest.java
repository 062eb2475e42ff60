import java.util.ArrayList;
import java.util.List;
import java.util.function.Consumer;
import java.util.function.ToLongFunction;

/** Terms: "What throws or is refused changes nothing." Many such calls, one behind the other, on one object. */
public final class RefusedTest {
    private static final int NONE = BillMatch.NONE;
    private static final int THROWS = -3;
    private static final Expect EXPECT = new Expect("terms, refusals");

    private static final List<String> NAMES = new ArrayList<>();
    private static final List<Integer> DUE = new ArrayList<>();
    private static final List<ToLongFunction<BillMatch>> CALLS = new ArrayList<>();

    public static void main(String[] args) {
        EXPECT.sentence("What throws or is refused changes nothing.", RefusedTest::onAnObjectInUse);
        EXPECT.sentence("What throws or is refused changes nothing.", RefusedTest::onAFullObject);
        EXPECT.sentence("What throws or is refused changes nothing.", RefusedTest::onAnUntouchedObject);
        EXPECT.end();
    }

    private static void call(String name, int due, ToLongFunction<BillMatch> call) {
        NAMES.add(name);
        DUE.add(due);
        CALLS.add(call);
    }

    private static int bit(boolean answer) {
        return answer ? 1 : 0;
    }

    private static long outcome(ToLongFunction<BillMatch> call, BillMatch x) {
        try {
            return call.applyAsLong(x);
        } catch (RuntimeException e) {
            return THROWS;
        }
    }

    private static void allChangeNothing(Consumer<BillMatch> history) {
        BillMatch x = new BillMatch();
        history.accept(x);
        for (int i = 0; i < CALLS.size(); i++) {
            EXPECT.same(NAMES.get(i), DUE.get(i), outcome(CALLS.get(i), x));
        }
        Consumer<BillMatch> andAll = y -> {
            history.accept(y);
            CALLS.forEach(one -> outcome(one, y));
        };
        EXPECT.same("all of them", Picture.of(history), Picture.of(andAll));
        NAMES.clear();
        DUE.clear();
        CALLS.clear();
    }

    /** A chain of four bills with lines, one bill of call 1, boxes on bills, landed, ordered, waiting, joined. */
    private static void inUse(BillMatch x) {
        Given.chain(x);
        x.bill(1, 99999999, NONE);
        x.line(0, 100, 1);
        x.line(3, 2000, 2);
        x.line(3, 3000, 3);
        x.line(4, 50, 5);
        x.arrive(0);
        x.amend(3, 1, 1000);
        x.box(0, 1, 10);
        x.box(0, 2, 20);
        x.box(1, 1, 30);
        x.on(0, 0);
        x.on(0, 1);
        x.on(0, 2);
        x.on(0, 3);
        x.land(0, 13);
        x.land(1, 5);
        x.leg(0, 2);
        x.title(1, 0, 6);
        x.order(1, 0, 6);
    }

    private static void onAnObjectInUse() {
        call("bill of no call", THROWS, x -> x.bill(4, 1, NONE));
        call("bill of no number", THROWS, x -> x.bill(0, 100000000, NONE));
        call("bill under none such", NONE, x -> x.bill(0, 1, 5));
        call("bill of another call", NONE, x -> x.bill(1, 1, 0));
        call("bill of depth 5", NONE, x -> x.bill(0, 1, 3));
        call("bill under one with an order", NONE, x -> x.bill(0, 1, 1));
        call("bill of a number that is there", NONE, x -> x.bill(0, 10, NONE));
        call("line of no bill", THROWS, x -> x.line(5, 1, 1));
        call("line of no weight", THROWS, x -> x.line(0, 1000001, 1));
        call("line of no pieces", THROWS, x -> x.line(0, 1, 10001));
        call("box of no call", THROWS, x -> x.box(-1, 9, 1));
        call("box of no number", THROWS, x -> x.box(0, -1, 1));
        call("box of no weight", THROWS, x -> x.box(0, 9, -1));
        call("box of a number that is there", NONE, x -> x.box(1, 1, 1));
        call("on no box", 0, x -> bit(x.on(3, 0)));
        call("on no bill", 0, x -> bit(x.on(1, 5)));
        call("on another call's", 0, x -> bit(x.on(2, 0)));
        call("on again", 0, x -> bit(x.on(0, 3)));
        call("land no box", 0, x -> bit(x.land(3, 1)));
        call("land again", 0, x -> bit(x.land(1, 6)));
        call("land no kilograms", 0, x -> bit(x.land(2, -1)));
        call("arrive none", 0, x -> bit(x.arrive(4)));
        call("arrive again", 0, x -> bit(x.arrive(0)));
        call("amend no bill", THROWS, x -> x.amend(5, 0, 1));
        call("amend no line", THROWS, x -> x.amend(3, 2, 1));
        call("amend to no weight", THROWS, x -> x.amend(3, 0, 1000001));
        call("amend to the same", 0, x -> x.amend(3, 0, 2000));
        call("title of no bill", THROWS, x -> x.title(5, 0, 1));
        call("title of no holder", THROWS, x -> x.title(0, 0, 10));
        call("title to the same", THROWS, x -> x.title(0, 0, 0));
        call("title of another", 0, x -> x.title(0, 1, 2));
        call("title with an order", 0, x -> x.title(1, 6, 7));
        call("order of no bill", THROWS, x -> x.order(5, 0, 0));
        call("order of no box", THROWS, x -> x.order(0, 3, 0));
        call("order of no holder", THROWS, x -> x.order(0, 0, -1));
        call("order again", 0, x -> x.order(1, 0, 6));
        call("order by another bill", 0, x -> x.order(0, 0, 0));
        call("order of one on no bill", 0, x -> x.order(0, 1, 0));
        call("split of no bill", THROWS, x -> x.split(5, 1));
        call("split of nothing", THROWS, x -> x.split(3, 0));
        call("split of all", NONE, x -> x.split(3, 3000));
        call("split of one above others", NONE, x -> x.split(0, 1));
        call("split without a number", NONE, x -> x.split(4, 1));
        call("leg of none", 0, x -> bit(x.leg(3, 0)));
        call("leg in one call", 0, x -> bit(x.leg(0, 1)));
        call("leg again", 0, x -> bit(x.leg(0, 2)));
        call("leg to one that has one", 0, x -> bit(x.leg(1, 2)));
        call("leg in a ring", 0, x -> bit(x.leg(2, 0)));
        call("look at no bill", THROWS, x -> x.look(5, 0));
        call("look for no what", THROWS, x -> x.look(0, 16));
        call("seen of no box", THROWS, x -> x.seen(3, 0));
        call("seen of no what", THROWS, x -> x.seen(0, 14));
        call("seen on less bills", THROWS, x -> x.seen(1, 10));
        call("waits", NONE, x -> x.waits(1));
        call("like of no call", THROWS, x -> x.like(4, 1, 0));
        call("like of no number", THROWS, x -> x.like(0, -1, 0));
        call("like", NONE, x -> x.like(2, 10, 0));
        call("count of another what", NONE, x -> x.count(9));
        allChangeNothing(RefusedTest::inUse);
    }

    private static void onAFullObject() {
        call("one more bill", THROWS, x -> x.bill(1, 1, NONE));
        call("one more line", THROWS, x -> x.line(59, 1, 1));
        call("one more box", THROWS, x -> x.box(2, 1, 1));
        call("one more split", THROWS, x -> x.split(59, 1));
        call("box 0 on a fifth bill", 0, x -> bit(x.on(0, 1)));
        call("box 60", 0, x -> bit(x.on(60, 0)));
        call("box 1 on bill 60", 0, x -> bit(x.on(1, 60)));
        call("box 60 lands", 0, x -> bit(x.land(60, 1)));
        call("a leg to box 60", 0, x -> bit(x.leg(0, 60)));
        call("line 3 of the last bill", THROWS, x -> x.amend(59, 3, 1));
        call("title of bill 60", THROWS, x -> x.title(60, 0, 1));
        call("order of box 60", THROWS, x -> x.order(59, 60, 0));
        allChangeNothing(Given::full);
    }

    private static void onAnUntouchedObject() {
        call("a bill under none such", NONE, x -> x.bill(0, 1, 0));
        call("a line", THROWS, x -> x.line(0, 1, 1));
        call("on", 0, x -> bit(x.on(0, 0)));
        call("land", 0, x -> bit(x.land(0, 1)));
        call("amend", THROWS, x -> x.amend(0, 0, 1));
        call("title", THROWS, x -> x.title(0, 0, 1));
        call("order", THROWS, x -> x.order(0, 0, 0));
        call("split", THROWS, x -> x.split(0, 1));
        call("leg", 0, x -> bit(x.leg(0, 1)));
        call("look", THROWS, x -> x.look(0, 0));
        call("seen", THROWS, x -> x.seen(0, 0));
        call("waits", NONE, x -> x.waits(0));
        call("like", NONE, x -> x.like(0, 0, 0));
        allChangeNothing(Given::nothing);
    }
}
