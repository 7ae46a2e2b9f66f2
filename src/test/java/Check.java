import java.util.ArrayList;
import java.util.List;
import java.util.function.Supplier;

/** What the tests share: objects told by a text, answers compared, the exit code. */
final class Check {
    private static int wrong = 0;
    private static int seen = 0;

    private Check() {
    }

    interface Call {
        long of(TallerTrees x);
    }

    interface CallWith {
        long of(TallerTrees x, int n);
    }

    static void due(String call, long got, long want) {
        seen++;
        if (got != want) {
            wrong++;
            if (wrong <= 50) {
                System.out.println(call + " answered " + got + ", due is " + want);
            }
        }
    }

    static void types(TallerTrees x, String text) {
        for (int i = 0; i < text.length(); i++) {
            due("type of byte " + i + " of '" + text + "'", x.type(text.charAt(i)) > 0 ? 1 : 0, 1);
        }
    }

    static TallerTrees told(String text) {
        TallerTrees x = new TallerTrees();
        types(x, text);
        int items = x.field();
        due("items of '" + text + "'", items, text.chars().filter(c -> c == ';').count());
        return x;
    }

    /** What field() answers to a text, typed into a new object. */
    static int read(String text) {
        TallerTrees x = new TallerTrees();
        types(x, text);
        return x.field();
    }

    static void fault(String text, int place) {
        due("fault of '" + text + "'", read(text), -10 - place);
    }

    static void years(TallerTrees x, int many) {
        for (int i = 0; i < many; i++) {
            x.year();
        }
    }

    /** A number is refused just below and just above its bounds, and nowhere within. */
    static void bounds(String call, Supplier<TallerTrees> made, int least, int most, long refused, CallWith f) {
        for (int n : new int[] {Integer.MIN_VALUE, least - 1, most + 1, Integer.MAX_VALUE}) {
            due(call + " with " + n, f.of(made.get(), n), refused);
        }
        for (int n = least; n <= most; n++) {
            due(call + " with " + n + " is refused", f.of(made.get(), n) == refused ? 1 : 0, 0);
        }
    }

    /** What calls answer of NOW. */
    private static void look(TallerTrees x, List<Long> answers) {
        for (int what = 0; what <= 5; what++) {
            answers.add((long) x.count(what));
            answers.add((long) x.now(what));
            for (int i = 0; i < 2; i++) {
                answers.add((long) x.tree(i, what));
                answers.add((long) x.house(i, what));
            }
        }
    }

    private static void lookBack(TallerTrees x, List<Long> answers) {
        look(x, answers);
        for (int i = 0; i <= 10; i++) {
            answers.add((long) x.undo());
            answers.add((long) x.now(0));
            answers.add((long) x.now(2));
            answers.add((long) x.now(4));
            answers.add((long) x.tree(0, 2));
        }
    }

    /** What calls can tell of an object with some two TREES and two HOUSES, by some 300 calls. It is used up then. */
    static List<Long> everything(TallerTrees x) {
        List<Long> answers = new ArrayList<>();
        answers.add(x.trace());
        for (int what = 0; what <= 2; what++) {
            answers.add((long) x.whose(what));
        }
        answers.add((long) x.saw(0));
        lookBack(x, answers);
        for (int image = 0; image <= 1; image++) {
            answers.add((long) x.back(image));
            lookBack(x, answers);
        }
        answers.add((long) x.field());
        return answers;
    }

    /** The call answers what is due, and an object on which it was made is as one on which it was not. */
    static void changesNothing(String call, Supplier<TallerTrees> made, long want, Call f) {
        TallerTrees x = made.get();
        due(call, f.of(x), want);
        due(call + " changes nothing", everything(x).equals(everything(made.get())) ? 1 : 0, 1);
    }

    static int wrongs() {
        return wrong;
    }

    static void end(String name) {
        System.out.println(name + ": " + (seen - wrong) + " of " + seen + " answers are as due");
        if (wrong > 0 || seen == 0) {
            System.exit(1);
        }
    }
}
