import java.util.Random;

/** Runs of calls, the same ones each time, on the class and on the Model: both must answer alike. */
public final class ModelTest {
    // An object is good for 512 calls; the last step of a run may make some 100.
    private static final int RUNS = 500, CALLS = 410;

    private final Random random;
    private final TallerTrees x = new TallerTrees();
    private final Model model = new Model();
    private final int run;
    private int calls = 0;

    private ModelTest(int run) {
        this.run = run;
        this.random = new Random(run);
    }

    public static void main(String[] args) {
        for (int run = 0; run < RUNS && Check.wrongs() == 0; run++) {
            new ModelTest(run).play();
            for (int i = 0; i < 20; i++) {
                new ModelTest(1000 + 20 * run + i).read();
            }
        }
        Check.end("ModelTest");
    }

    private void play() {
        if (random.nextInt(4) > 0) {
            tell(field());
        }
        while (calls < CALLS) {
            call(random.nextInt(100));
        }
    }

    private void read() {
        String text = field();
        tell(random.nextInt(5) == 0 ? text : spoilt(text));
        everything();
    }

    private void same(String call, long got, long due) {
        calls++;
        Check.due("run " + run + ", call " + calls + ": " + call, got, due);
    }

    private int pick(int least, int most) {
        return least + random.nextInt(most - least + 1);
    }

    /** Mostly what may be, now and then one beyond or far off. */
    private int number(int least, int most) {
        int dice = random.nextInt(60);
        if (dice == 0) return least - 1;
        if (dice == 1) return most + 1;
        if (dice == 2) return random.nextInt();
        return pick(least, most);
    }

    private int t() {
        return number(0, Math.max(0, model.count(0) - 1));
    }

    private int h() {
        return number(0, Math.max(0, model.count(1) - 1));
    }

    private String field() {
        StringBuilder text = new StringBuilder();
        int wide = pick(2, 10);
        int trees = pick(0, 7);
        int houses = pick(0, 6);
        int low = pick(1, 50);
        int high = Math.min(60, low + pick(2, 30));
        while (trees + houses > 0) {
            boolean isTree = random.nextInt(trees + houses) < trees;
            text.append(isTree ? 't' : 'h').append(random.nextInt(wide)).append(' ').append(random.nextInt(wide));
            text.append(' ').append(pick(low, high));
            if (isTree) {
                text.append(' ').append(pick(0, 5));
                trees--;
            } else {
                houses--;
            }
            text.append(';');
        }
        if (random.nextBoolean()) text.append('r').append(pick(1, 9)).append(';');
        if (random.nextBoolean()) text.append('u').append(pick(1, 9)).append(';');
        return text.toString();
    }

    private static final String SIGNS = "thru;  0123456789xA\t\u00e9";

    private String spoilt(String text) {
        StringBuilder other = new StringBuilder(text);
        for (int i = pick(1, 2); i > 0 && other.length() > 0; i--) {
            int at = random.nextInt(other.length());
            switch (random.nextInt(4)) {
                case 0 -> other.deleteCharAt(at);
                case 1 -> other.insert(at, SIGNS.charAt(random.nextInt(SIGNS.length())));
                case 2 -> other.setCharAt(at, SIGNS.charAt(random.nextInt(SIGNS.length())));
                default -> other.setLength(at);
            }
        }
        return other.toString();
    }

    private void tell(String text) {
        for (int i = 0; i < text.length(); i++) {
            same("type " + text.charAt(i), x.type(text.charAt(i)), model.type(text.charAt(i)));
        }
        same("field of " + text, x.field(), model.field());
    }

    private void newText() {
        if (random.nextInt(3) > 0) {
            int c = number(0, 255);
            same("type " + c, x.type(c), model.type(c));
        } else {
            same("clear", x.clear(), model.clear());
            String text = field();
            if (calls < 300) tell(random.nextInt(3) == 0 ? text : spoilt(text));
        }
    }

    private void call(int dice) {
        if (dice < 8) {
            same("year", x.year(), model.year());
        } else if (dice < 14) {
            int y = number(0, 9);
            same("storm " + y, x.storm(y), model.storm(y));
        } else if (dice < 18) {
            int t = t();
            int n = number(1, random.nextBoolean() ? 60 : 5);
            same("tops " + t + " " + n, x.tops(t, n), model.tops(t, n));
        } else if (dice < 21) {
            int px = number(0, 9);
            int py = number(0, 9);
            same("plants " + px + " " + py, x.plants(px, py), model.plants(px, py));
        } else if (dice < 27) {
            same("undo", x.undo(), model.undo());
        } else if (dice < 28) {
            newText();
        } else if (dice < 32) {
            int i = number(0, 1);
            if (random.nextBoolean()) same("keep " + i, x.keep(i), model.keep(i));
            else same("back " + i, x.back(i), model.back(i));
        } else if (dice < 35) {
            int bits = random.nextBoolean() ? model.now(1) : number(0, (1 << model.count(1)) - 1);
            same("saw " + bits, x.saw(bits), model.saw(bits));
        } else if (dice < 36) {
            everything();
        } else {
            ask(dice);
        }
    }

    private void ask(int dice) {
        int t = t();
        int h = h();
        int what = number(0, 5);
        int two = number(0, 1);
        int three = number(0, 2);
        if (dice < 41) {
            same("tree " + t + " " + what, x.tree(t, what), model.tree(t, what));
        } else if (dice < 46) {
            same("house " + h + " " + what, x.house(h, what), model.house(h, what));
        } else if (dice < 53) {
            same("now " + what, x.now(what), model.now(what));
        } else if (dice < 56) {
            same("only " + h, x.only(h), model.only(h));
        } else if (dice < 60) {
            same("when " + h, x.when(h), model.when(h));
        } else if (dice < 66) {
            int n = number(0, 40);
            same("where " + n + " " + three, x.where(n, three), model.where(n, three));
        } else if (dice < 71) {
            int s = random.nextInt(3) == 0 ? -1 : t;
            same("sold " + s, x.sold(s), model.sold(s));
        } else if (dice < 75) {
            same("ribbons", x.ribbons(), model.ribbons());
        } else if (dice < 79) {
            int i = two == 0 ? t : h;
            same("tracks " + two + " " + i, x.tracks(two, i), model.tracks(two, i));
        } else if (dice < 83) {
            int n = number(0, 3);
            same("odds " + h + " " + n + " " + two, x.odds(h, n, two), model.odds(h, n, two));
        } else if (dice < 87) {
            int n = number(0, 99);
            same("war " + t + " " + h + " " + n, x.war(t, h, n), model.war(t, h, n));
        } else if (dice < 92) {
            same("whose " + three, x.whose(three), model.whose(three));
        } else if (dice < 96) {
            same("mark " + what + " " + t, x.mark(what, t), model.mark(what, t));
        } else if (dice < 98) {
            same("count " + what, x.count(what), model.count(what));
        } else {
            same("trace", x.trace(), model.trace());
        }
    }

    /** Looks at all that calls can change. */
    private void everything() {
        for (int what = 0; what <= 5; what++) {
            same("now " + what, x.now(what), model.now(what));
            same("count " + what, x.count(what), model.count(what));
            for (int i = 0; i < 7; i++) {
                same("tree " + i + " " + what, x.tree(i, what), model.tree(i, what));
                same("house " + i + " " + what, x.house(i, what), model.house(i, what));
            }
        }
        same("trace", x.trace(), model.trace());
    }
}
