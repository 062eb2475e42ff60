import java.util.function.Consumer;
import java.util.function.Predicate;
import java.util.function.ToLongFunction;

/** Counts what is not as due, and ends the test with exit code 1 if there was anything. */
final class Expect {
    private final String test;
    private String sentence = "";
    private int sentences = 0;
    private int checks = 0;
    private int wrong = 0;

    Expect(String test) {
        this.test = test;
    }

    /** A sentence of the document, in its own words, and the test that is its own. */
    void sentence(String words, Runnable itsTest) {
        sentence = words;
        sentences++;
        int checksBefore = checks;
        try {
            itsTest.run();
        } catch (RuntimeException e) {
            tell("the test itself", "an end", e.toString());
        }
        if (checks == checksBefore) {
            tell("the test itself", "a check", "none");
        }
        sentence = "";
    }

    void same(String what, long due, long got) {
        checks++;
        if (due != got) {
            tell(what, Long.toString(due), Long.toString(got));
        }
    }

    void same(String what, boolean due, boolean got) {
        same(what, due ? 1L : 0L, got ? 1L : 0L);
    }

    void same(String what, String due, String got) {
        checks++;
        if (!due.equals(got)) {
            tell(what, due, got);
        }
    }

    /** The exception must be of the very class: a subclass would come from the machine, not from a throw. */
    void fails(String what, Class<?> due, Runnable call) {
        same(what, due.getSimpleName(), outcome(call));
    }

    /** After the set-up the call answers as due. */
    void answers(String what, Consumer<BillMatch> setUp, long due, ToLongFunction<BillMatch> call) {
        BillMatch x = new BillMatch();
        setUp.accept(x);
        same(what, due, call.applyAsLong(x));
    }

    void allowed(String what, Consumer<BillMatch> setUp, Predicate<BillMatch> call) {
        answers(what, setUp, 1, x -> call.test(x) ? 1 : 0);
    }

    /** After the set-up the call answers as due, and an object that had the call looks like one that had it not. */
    void refused(String what, Consumer<BillMatch> setUp, long due, ToLongFunction<BillMatch> call) {
        answers(what, setUp, due, call);
        changesNothing(what, setUp, call);
    }

    void denied(String what, Consumer<BillMatch> setUp, Predicate<BillMatch> call) {
        refused(what, setUp, 0, x -> call.test(x) ? 1 : 0);
    }

    /** The same for a call that throws. */
    void thrown(String what, Consumer<BillMatch> setUp, Class<?> due, ToLongFunction<BillMatch> call) {
        BillMatch x = new BillMatch();
        setUp.accept(x);
        fails(what, due, () -> call.applyAsLong(x));
        changesNothing(what, setUp, call);
    }

    private void changesNothing(String what, Consumer<BillMatch> setUp, ToLongFunction<BillMatch> call) {
        Consumer<BillMatch> andTheCall = x -> {
            setUp.accept(x);
            outcome(() -> call.applyAsLong(x));
        };
        same(what + " changes nothing", Picture.of(setUp), Picture.of(andTheCall));
    }

    private static String outcome(Runnable call) {
        try {
            call.run();
            return "nothing";
        } catch (RuntimeException e) {
            return e.getClass().getSimpleName();
        }
    }

    private void tell(String what, String due, String got) {
        wrong++;
        String where = sentence.isEmpty() ? "" : " \"" + sentence + "\"";
        System.out.println(test + ":" + where + ": " + what + ": due is " + due + ", answered " + got);
    }

    void end() {
        String told = sentences == 0 ? "" : sentences + " sentences, ";
        System.out.println(test + ": " + told + checks + " checks, " + wrong + " wrong");
        if (wrong != 0 || checks == 0) {
            System.exit(1);
        }
    }
}
