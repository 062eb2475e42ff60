import java.util.ArrayList;
import java.util.List;
import java.util.function.Consumer;

/**
 * All that can be asked of an object. It is asked of many objects with the same history, a few questions each,
 * for nothing is promised of an object behind its 512th call.
 */
final class Picture {
    private static final int QUESTIONS_OF_AN_OBJECT = 40;

    private interface Question {
        int ask(BillMatch x);
    }

    private Picture() {
    }

    static String of(Consumer<BillMatch> history) {
        List<Question> questions = questions(made(history));
        StringBuilder text = new StringBuilder();
        BillMatch x = made(history);
        for (int i = 0; i < questions.size(); i++) {
            if (i % QUESTIONS_OF_AN_OBJECT == 0) {
                x = made(history);
            }
            text.append(questions.get(i).ask(x)).append(' ');
        }
        return text.toString();
    }

    private static BillMatch made(Consumer<BillMatch> history) {
        BillMatch x = new BillMatch();
        history.accept(x);
        return x;
    }

    private static List<Question> questions(BillMatch x) {
        List<Question> all = new ArrayList<>();
        int bills = x.count(0);
        int boxes = x.count(1);
        for (int i = 0; i <= 8; i++) {
            int what = i;
            all.add(y -> y.count(what));
        }
        for (int bill = 0; bill < bills; bill++) {
            ofABill(all, bill);
        }
        for (int box = 0; box < boxes; box++) {
            ofABox(all, box, 10 + x.seen(box, 4));
        }
        for (int bill = 0; bill < bills; bill++) {
            ofLines(all, bill, x.look(bill, 4));
        }
        return all;
    }

    private static void ofABill(List<Question> all, int bill) {
        for (int i = 0; i <= 15; i++) {
            int what = i;
            all.add(y -> y.look(bill, what));
        }
    }

    private static void ofABox(List<Question> all, int box, int whats) {
        for (int i = 0; i < whats; i++) {
            int what = i;
            all.add(y -> y.seen(box, what));
        }
    }

    private static void ofLines(List<Question> all, int bill, int lines) {
        for (int i = 0; i < lines; i++) {
            int line = i;
            all.add(y -> weightOfLine(y, bill, line));
        }
    }

    /** A line's weight can't be asked for: it is what its bill loses when the line is amended to 0. */
    static int weightOfLine(BillMatch x, int bill, int line) {
        int before = x.look(bill, 5);
        x.amend(bill, line, 0);
        return before - x.look(bill, 5);
    }
}
