import java.util.function.Consumer;
import java.util.function.ToLongFunction;

/** Counts what is not as due, and ends the test with exit code 1 if there was anything. */
final class Expect {
    private final String test;
    private int checks = 0;
    private int wrong = 0;

    Expect(String test) {
        this.test = test;
    }

    void same(String what, long due, long got) {
        checks++;
        if (due != got) {
            tell(what, Long.toString(due), Long.toString(got));
        }
    }

    void same(String what, boolean due, boolean got) {
        same(what, due ? 1L : 0L, got ? 1L : 0L);
    }

    void same(String what, String due, String got) {
        checks++;
        if (!due.equals(got)) {
            tell(what, due, got);
        }
    }

    /** The exception must be of the very class: a subclass would come from the machine, not from a throw. */
    void fails(String what, Class<?> due, Runnable call) {
        same(what, due.getSimpleName(), outcome(call));
    }

    /** After the set-up the call answers as due, and an object that had the call looks like one that had it not. */
    void refused(String what, Consumer<BillMatch> setUp, long due, ToLongFunction<BillMatch> call) {
        BillMatch with = new BillMatch();
        setUp.accept(with);
        same(what, due, call.applyAsLong(with));
        sameState(what, setUp, with);
    }

    /** The same for a call that throws. */
    void thrown(String what, Consumer<BillMatch> setUp, Class<?> due, ToLongFunction<BillMatch> call) {
        BillMatch with = new BillMatch();
        setUp.accept(with);
        fails(what, due, () -> call.applyAsLong(with));
        sameState(what, setUp, with);
    }

    private void sameState(String what, Consumer<BillMatch> setUp, BillMatch with) {
        BillMatch without = new BillMatch();
        setUp.accept(without);
        same(what + " changes nothing", picture(without), picture(with));
    }

    /** All that can be asked of the object, apart from lines one by one. */
    static String picture(BillMatch x) {
        StringBuilder text = new StringBuilder();
        for (int what = 0; what <= 8; what++) {
            text.append(x.count(what)).append(' ');
        }
        for (int bill = 0; bill < x.count(0); bill++) {
            text.append("bill ");
            for (int what = 0; what <= 15; what++) {
                text.append(x.look(bill, what)).append(' ');
            }
        }
        for (int box = 0; box < x.count(1); box++) {
            text.append("box ");
            for (int what = 0; what < 10 + x.seen(box, 4); what++) {
                text.append(x.seen(box, what)).append(' ');
            }
        }
        return text.toString();
    }

    static String outcome(Runnable call) {
        try {
            call.run();
            return "nothing";
        } catch (RuntimeException e) {
            return e.getClass().getSimpleName();
        }
    }

    private void tell(String what, String due, String got) {
        wrong++;
        System.out.println(test + ": " + what + ": due is " + due + ", answered " + got);
    }

    void end() {
        System.out.println(test + ": " + checks + " checks, " + wrong + " wrong");
        if (wrong != 0 || checks == 0) {
            System.exit(1);
        }
    }
}
