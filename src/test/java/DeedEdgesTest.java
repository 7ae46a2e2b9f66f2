import java.util.function.Supplier;

/** Boundary cases of promises 5 to 12, 24 to 27 and of part 2: what is done, UNDONE, kept, refused. */
public final class DeedEdgesTest {
    private static final int BAD = TallerTrees.BAD, STATE = TallerTrees.STATE;
    private static final int FULL = TallerTrees.FULL, NONE = TallerTrees.NONE, NO = TallerTrees.NO;

    private DeedEdgesTest() {
    }

    public static void main(String[] args) {
        boundsOfQuestions();
        boundsOfDeeds();
        coversIfHigher();
        coversUpToReach();
        coversIfNotUsedUp();
        yearGrowsTo99();
        yearUsesUpLess();
        yearAnswersOfThen();
        yearEndsAt200();
        stormIsTwoWide();
        stormStrikesTheHighest();
        stormTakesTheLeastX();
        stormTakesATreeAheadOfAHouse();
        stormTakesTheLesserNumber();
        stormStrikesWhatIsLowAndFarEast();
        stormPassesTheUsedUp();
        stormUsesUpForEachUsed();
        stormCountsOfAHouse();
        stormOfNothing();
        topsTo1AtLeast();
        topsBy60From99();
        topsTheUsedUp();
        plantsUpToSeven();
        plantsAnyPlace();
        plantsAnew();
        undoesEach();
        knowsTen();
        knowsTenAllAround();
        undoesNoQuestions();
        nowOfAll();
        fullField();
        stormOfNothingInAFullField();
        keepsNow();
        keepsTenThatMayBeUndone();
        keepsAnew();
        backTwice();
        backOfEachImage();
        keepsNothingElse();
        refusedChangesNothing();
        refusedByState();
        refusedByFull();
        refusedDeedsAreNotKnown();
        questionsChangeNothing();
        Check.end("DeedEdgesTest");
    }

    // ---- numbers at their bounds

    private static TallerTrees two() {
        return Check.told("t1 1 20 1;t5 5 9 2;h2 2 15;h5 6 60;r4;u3;");
    }

    private static void boundsOfQuestions() {
        Supplier<TallerTrees> two = DeedEdgesTest::two;
        for (int fine = 0; fine <= 5; fine++) {
            int what = fine;
            Check.bounds("tree t " + what, two, 0, 1, BAD, (x, t) -> x.tree(t, what));
            Check.bounds("house h " + what, two, 0, 1, BAD, (x, h) -> x.house(h, what));
            Check.bounds("mark t " + what, two, 0, 1, NO, (x, t) -> x.mark(what, t));
        }
        Check.bounds("tree what", two, 0, 5, BAD, (x, what) -> x.tree(1, what));
        Check.bounds("house what", two, 0, 5, BAD, (x, what) -> x.house(1, what));
        Check.bounds("now", two, 0, 5, BAD, (x, what) -> x.now(what));
        Check.bounds("count", two, 0, 5, BAD, (x, what) -> x.count(what));
        Check.bounds("mark kind", two, 0, 5, NO, (x, kind) -> x.mark(kind, 1));
        Check.due("tree of neither", two().tree(2, 6), BAD);
        Check.due("house of neither", two().house(2, 6), BAD);
        Check.due("mark of neither", two().mark(6, 2), NO);
        TallerTrees all = Check.told("t0 0 1 0;t0 0 1 0;t0 0 1 0;t0 0 1 0;t0 0 1 0;t0 0 1 0;t0 0 2 0;"
            + "h0 0 1;h0 0 1;h0 0 1;h0 0 1;h0 0 1;h0 0 2;");
        Check.due("the seventh tree", all.tree(6, 2), 2);
        Check.due("no eighth tree", all.tree(7, 2), BAD);
        Check.due("the sixth house", all.house(5, 2), 2);
        Check.due("no seventh house", all.house(6, 2), BAD);
    }

    private static void boundsOfDeeds() {
        Supplier<TallerTrees> two = DeedEdgesTest::two;
        Check.bounds("storm", two, 0, 9, BAD, (x, y) -> x.storm(y));
        Check.bounds("tops t", two, 0, 1, BAD, (x, t) -> x.tops(t, 1));
        Check.bounds("tops n", two, 1, 60, BAD, (x, n) -> x.tops(1, n));
        Check.bounds("plants x", two, 0, 9, BAD, (x, n) -> x.plants(n, 9));
        Check.bounds("plants y", two, 0, 9, BAD, (x, n) -> x.plants(9, n));
        Check.bounds("keep", two, 0, 1, BAD, (x, n) -> x.keep(n));
        Check.bounds("back", DeedEdgesTest::bothKept, 0, 1, BAD, (x, n) -> x.back(n));
        Check.bounds("back, none kept", two, 0, 1, BAD, (x, n) -> x.back(n));
        Check.due("tops of neither", two().tops(2, 61), BAD);
        Check.due("plants of neither", two().plants(10, -1), BAD);
    }

    private static TallerTrees bothKept() {
        TallerTrees x = two();
        x.keep(0);
        x.keep(1);
        return x;
    }

    // ---- who covers whom

    private static void coversIfHigher() {
        Check.due("one higher", Check.told("t0 0 10 0;h0 0 9;").now(1), 1);
        Check.due("as high", Check.told("t0 0 10 0;h0 0 10;").now(1), 0);
        Check.due("one lower", Check.told("t0 0 10 0;h0 0 11;").now(1), 0);
        Check.due("1 does not cover 1", Check.told("t0 0 1 0;h0 0 1;").now(1), 0);
        Check.due("2 covers 1", Check.told("t0 0 2 0;h0 0 1;").now(1), 1);
        Check.due("60 does not cover 60", Check.told("t0 0 60 5;h0 0 60;").now(1), 0);
        Check.due("60 covers 59", Check.told("t0 0 60 5;h0 0 59;").now(1), 1);
    }

    private static void coversUpToReach() {
        Check.due("5 by 3 and 4", Check.told("t0 0 9 0;h3 4 1;h4 3 1;h4 4 1;h5 0 1;h0 5 1;h5 1 1;r5;").now(1), 27);
        Check.due("1", Check.told("t5 5 9 0;h4 5 1;h6 5 1;h5 4 1;h5 6 1;h4 4 1;h7 5 1;r1;").now(1), 15);
        Check.due("9", Check.told("t0 9 9 0;h0 0 1;h9 9 1;h1 0 1;h9 8 1;h6 3 1;h7 3 1;r9;").now(1), 1 + 2 + 16);
        for (int reach = 1; reach <= 9; reach++) {
            for (int x = 0; x <= 9; x++) {
                for (int y = 0; y <= 9; y++) {
                    int due = x * x + y * y <= reach * reach ? 1 : 0;
                    String houseEast = "t0 0 60 0;h" + x + " " + y + " 1;r" + reach + ";";
                    String houseWest = "t9 9 60 0;h" + (9 - x) + " " + (9 - y) + " 1;r" + reach + ";";
                    Check.due(houseEast, Check.told(houseEast).tree(0, 5), due);
                    Check.due(houseWest, Check.told(houseWest).house(0, 4), due);
                }
            }
        }
    }

    private static void coversIfNotUsedUp() {
        TallerTrees x = Check.told("t0 0 60 5;h0 0 1;u1;");
        x.storm(0);
        Check.due("used up: whom it covers", x.tree(0, 5), 0);
        Check.due("used up: who covers", x.house(0, 4), 0);
        Check.due("used up: premium", x.house(0, 5), 31);
        Check.due("used up: covered", x.now(1), 0);
        Check.due("used up: bits", x.now(2), 1);
        Check.due("used up: as an oak", x.mark(1, 0), 60);
        x.year();
        Check.due("no more: whom it covers", x.tree(0, 5), 1);
        Check.due("no more: bits", x.now(2), 0);
    }

    // ---- years

    private static void grown(int high, int grows, int years, int due) {
        TallerTrees x = Check.told("t0 0 " + high + " " + grows + ";");
        Check.years(x, years);
        Check.due(high + " by " + grows + " for " + years, x.tree(0, 2), due);
    }

    private static void yearGrowsTo99() {
        grown(60, 1, 38, 98);
        grown(60, 1, 39, 99);
        grown(60, 1, 40, 99);
        grown(59, 5, 8, 99);
        grown(59, 5, 9, 99);
        grown(60, 5, 7, 95);
        grown(60, 5, 8, 99);
        grown(58, 5, 8, 98);
        grown(58, 5, 9, 99);
        grown(60, 3, 12, 96);
        grown(60, 3, 13, 99);
        grown(60, 0, 200, 60);
        grown(1, 0, 200, 1);
        grown(1, 5, 19, 96);
        grown(1, 5, 20, 99);
        grown(1, 1, 97, 98);
        grown(1, 1, 98, 99);
        grown(1, 1, 99, 99);
        TallerTrees x = Check.told("t0 0 60 5;");
        Check.years(x, 20);
        Check.due("99 less 1", x.tops(0, 1), 98);
        x.year();
        Check.due("99 again", x.tree(0, 2), 99);
    }

    private static void yearUsesUpLess() {
        for (int used = 1; used <= 9; used++) {
            TallerTrees x = Check.told("t0 0 30 4;h0 0 9;u" + used + ";");
            x.storm(0);
            for (int left = used - 1; left >= 0; left--) {
                Check.due("a year: covers when none is left", x.year(), left == 0 ? 1 : 0);
                Check.due("a year less", x.tree(0, 4), left);
                Check.due("bits", x.now(2), left == 0 ? 0 : 1);
                Check.due("does not grow", x.tree(0, 2), 30);
            }
            x.year();
            Check.due("0: no more", x.tree(0, 4), 0);
            Check.due("grows again", x.tree(0, 2), 34);
        }
    }

    private static void yearAnswersOfThen() {
        TallerTrees x = Check.told("t0 0 9 1;t9 9 8 1;h0 0 9;h9 9 9;");
        Check.due("none is covered", x.now(1), 0);
        Check.due("one in a year", x.year(), 1);
        Check.due("both in two", x.year(), 3);
        Check.due("both", x.now(1), 3);
    }

    private static void yearEndsAt200() {
        TallerTrees x = Check.told("t0 0 1 0;h0 0 60;");
        Check.years(x, 198);
        Check.due("to 199", x.year(), 0);
        Check.due("199", x.now(0), 199);
        Check.due("to 200", x.year(), 0);
        Check.due("200", x.now(0), 200);
        Check.due("no 201", x.year(), STATE);
        Check.due("200 still", x.now(0), 200);
        Check.due("as an elm", x.mark(5, 0), 201);
        Check.due("kept", x.keep(0), 200);
        Check.due("a storm may be", x.storm(9), NONE);
        Check.due("planted", x.plants(0, 0), 1);
        Check.due("topped", x.tops(0, 1), 1);
        Check.due("no 201 yet", x.year(), STATE);
        Check.due("known", x.undo(), 9);
        Check.due("known", x.undo(), 8);
        Check.due("known", x.undo(), 7);
        Check.due("the year is undone", x.undo(), 6);
        Check.due("199 again", x.now(0), 199);
        Check.due("to 200 again", x.year(), 0);
        Check.due("200 again", x.now(0), 200);
        Check.due("back to 200", x.back(0), 200);
        Check.due("no 201 by an image", x.year(), STATE);
    }

    // ---- storms

    private static void stormIsTwoWide() {
        for (int y = 0; y <= 9; y++) {
            for (int along = 0; along <= 9; along++) {
                boolean isStruck = along >= y - 2 && along <= y + 2;
                String place = "3 " + y + " 9";
                Check.due("tree " + place + " along " + along,
                    Check.told("t" + place + " 0;").storm(along), isStruck ? 0 : NONE);
                Check.due("house " + place + " along " + along,
                    Check.told("h" + place + ";").storm(along), isStruck ? 100 : NONE);
            }
        }
    }

    private static void stormStrikesTheHighest() {
        Check.due("a tree by 1", Check.told("t9 5 11 0;t0 5 10 0;h0 5 10;").storm(5), 0);
        Check.due("a later tree by 1", Check.told("t0 5 10 0;t9 5 11 0;h0 5 10;").storm(5), 1);
        Check.due("a house by 1", Check.told("t0 5 10 0;h0 5 10;h9 5 11;").storm(5), 101);
        Check.due("an earlier house by 1", Check.told("t0 5 10 0;h9 5 11;h0 5 10;").storm(5), 100);
        Check.due("higher, but three off", Check.told("t9 5 60 0;h0 2 1;").storm(2), 100);
        Check.due("higher, two off", Check.told("t9 4 60 0;h0 2 1;").storm(2), 0);
    }

    private static void stormTakesTheLeastX() {
        Check.due("of trees, the later", Check.told("t1 5 9 0;t0 5 9 0;").storm(5), 1);
        Check.due("of trees, the earlier", Check.told("t8 5 9 0;t9 5 9 0;").storm(5), 0);
        Check.due("of houses, the later", Check.told("h9 5 9;h8 5 9;").storm(5), 101);
        Check.due("of houses, the earlier", Check.told("h0 5 9;h1 5 9;").storm(5), 100);
        Check.due("a house ahead of a tree by X", Check.told("t1 5 9 0;h0 5 9;").storm(5), 100);
        Check.due("a tree ahead of a house by X", Check.told("t0 5 9 0;h1 5 9;").storm(5), 0);
        Check.due("not the least Y", Check.told("t1 3 9 0;t0 7 9 0;").storm(5), 1);
    }

    private static void stormTakesATreeAheadOfAHouse() {
        for (int x = 0; x <= 9; x += 9) {
            Check.due("at " + x, Check.told("h" + x + " 4 9;t" + x + " 6 9 0;").storm(5), 0);
            Check.due("the last tree at " + x, Check.told("h" + x + " 4 9;t9 9 9 0;t" + x + " 6 9 0;").storm(5), 1);
        }
    }

    private static void stormTakesTheLesserNumber() {
        Check.due("of trees", Check.told("t4 6 9 0;t4 4 9 0;t4 5 9 0;").storm(5), 0);
        Check.due("of houses", Check.told("h4 6 9;h4 4 9;h4 5 9;").storm(5), 100);
        Check.due("of those with the least X", Check.told("h5 5 9;t5 5 9 0;h4 6 9;h4 4 9;").storm(5), 101);
    }

    private static void stormStrikesWhatIsLowAndFarEast() {
        Check.due("a tree", Check.told("t9 9 1 0;").storm(9), 0);
        Check.due("a house", Check.told("h9 9 1;").storm(9), 100);
        Check.due("a tree west", Check.told("t0 0 1 0;").storm(0), 0);
        Check.due("a house west", Check.told("h0 0 1;").storm(0), 100);
        Check.due("the seventh tree", Check.told(
            "t0 0 1 0;t0 0 1 0;t0 0 1 0;t0 0 1 0;t0 0 1 0;t0 0 1 0;t0 0 2 0;").storm(0), 6);
        Check.due("the sixth house", Check.told("h0 0 1;h0 0 1;h0 0 1;h0 0 1;h0 0 1;h0 0 2;").storm(0), 105);
    }

    private static void stormPassesTheUsedUp() {
        TallerTrees x = Check.told("t0 5 60 0;t0 5 59 0;h0 5 1;u1;");
        int[] due = {0, 1, 100, 100};
        for (int i = 0; i < due.length; i++) {
            Check.due("one behind another", x.storm(5), due[i]);
        }
        Check.due("both used up", x.now(2), 3);
        x.year();
        Check.due("no more", x.storm(5), 0);
        TallerTrees y = Check.told("t0 5 60 0;");
        Check.due("the only one", y.storm(5), 0);
        Check.due("no other", y.storm(5), NONE);
        Check.due("not longer used up by it", y.tree(0, 4), 9);
    }

    private static void stormUsesUpForEachUsed() {
        for (int used = 1; used <= 9; used++) {
            TallerTrees x = Check.told("t0 0 9 0;t0 0 9 0;u" + used + ";");
            Check.due("struck", x.storm(0), 0);
            Check.due("used up for " + used, x.tree(0, 4), used);
            Check.due("the other is not", x.tree(1, 4), 0);
        }
    }

    private static void stormCountsOfAHouse() {
        TallerTrees x = Check.told("h0 0 9;h9 9 9;");
        for (int times = 1; times <= 15; times++) {
            Check.due("struck", x.storm(9), 101);
            Check.due("counted", x.house(1, 3), times);
        }
        Check.due("the other is not", x.house(0, 3), 0);
        x.storm(0);
        Check.due("all", x.now(4), 16);
        x.year();
        Check.due("all in a year", x.now(4), 16);
    }

    private static void stormOfNothing() {
        TallerTrees x = Check.told("t0 0 9 0;h9 9 9;");
        Check.due("nothing", x.storm(4), NONE);
        Check.due("may be undone all the same", x.count(4), 1);
        Check.due("nothing is used up", x.now(2), 0);
        Check.due("nothing is counted", x.now(4), 0);
        Check.due("undone", x.undo(), 0);
        Check.due("no more", x.undo(), STATE);
        for (int i = 1; i <= 11; i++) {
            x.storm(4);
            Check.due("known", x.count(4), Math.min(10, i));
        }
    }

    // ---- topped, planted

    private static void topped(int high, int n, int due) {
        TallerTrees x = Check.told("t0 0 " + high + " 0;");
        Check.due(high + " less " + n, x.tops(0, n), due);
        Check.due(high + " less " + n + " stays", x.tree(0, 2), due);
        Check.due("may be undone", x.undo(), 0);
        Check.due("undone", x.tree(0, 2), high);
    }

    private static void topsTo1AtLeast() {
        topped(60, 58, 2);
        topped(60, 59, 1);
        topped(60, 60, 1);
        topped(60, 1, 59);
        topped(3, 1, 2);
        topped(2, 1, 1);
        topped(1, 1, 1);
        topped(1, 60, 1);
    }

    private static void topsBy60From99() {
        TallerTrees x = Check.told("t0 0 60 1;t0 0 60 2;t0 0 60 5;");
        x.year();
        Check.due("61 less 60", x.tops(0, 60), 1);
        Check.due("62 less 60", x.tops(1, 60), 2);
        Check.years(x, 20);
        Check.due("99 less 60", x.tops(2, 60), 39);
    }

    private static void topsTheUsedUp() {
        TallerTrees x = Check.told("t0 0 9 0;h0 0 1;");
        x.storm(0);
        Check.due("used up", x.tops(0, 8), 1);
        Check.due("still for 9 years", x.tree(0, 4), 9);
    }

    private static void plantsUpToSeven() {
        TallerTrees x = new TallerTrees();
        for (int t = 0; t <= 6; t++) {
            Check.due("there is none yet", x.tree(t, 0), BAD);
            Check.due("planted", x.plants(t, 9 - t), t);
            Check.due("how many", x.count(0), t + 1);
        }
        Check.due("no eighth", x.plants(0, 0), FULL);
        Check.due("seven", x.count(0), 7);
        Check.due("seven may be undone", x.undo(), 6);
        Check.due("the seventh again", x.plants(0, 0), 6);
        Check.due("no eighth again", x.plants(0, 0), FULL);
    }

    private static void plantsAnyPlace() {
        for (int place = 0; place < 100; place += 9) {
            TallerTrees x = Check.told("t0 0 60 0;h0 0 60;");
            Check.due("planted", x.plants(place / 10, place % 10), 1);
            int[] due = {place / 10, place % 10, 1, 2, 0, 0};
            for (int what = 0; what <= 5; what++) {
                Check.due("planted at " + place + ": " + what, x.tree(1, what), due[what]);
            }
            x.year();
            Check.due("grows 2", x.tree(1, 2), 3);
        }
    }

    private static void plantsAnew() {
        TallerTrees x = new TallerTrees();
        x.plants(3, 3);
        x.year();
        x.storm(3);
        Check.due("used up", x.tree(0, 4), 9);
        x.undo();
        x.undo();
        x.undo();
        Check.due("gone", x.tree(0, 2), BAD);
        x.plants(4, 5);
        int[] due = {4, 5, 1, 2, 0, 0};
        for (int what = 0; what <= 5; what++) {
            Check.due("nothing of the one that is gone: " + what, x.tree(0, what), due[what]);
        }
    }

    // ---- undone

    private static void undoesEach() {
        TallerTrees x = Check.told("t0 0 20 3;t9 9 30 2;h0 0 9;h4 9 9;u2;");
        x.storm(0);
        x.year();
        Check.due("year: year", x.now(0), 1);
        x.undo();
        Check.due("a year undone: year", x.now(0), 0);
        Check.due("a year undone: high", x.tree(1, 2), 30);
        Check.due("a year undone: used up", x.tree(0, 4), 2);
        x.undo();
        Check.due("a storm undone: not used up", x.tree(0, 4), 0);
        x.storm(9);
        x.storm(9);
        Check.due("a house", x.house(1, 3), 1);
        x.undo();
        Check.due("a storm undone: not counted", x.house(1, 3), 0);
        Check.due("a storm undone: the one ahead of it is not", x.tree(1, 4), 2);
        x.undo();
        x.tops(0, 60);
        x.undo();
        Check.due("topped, undone", x.tree(0, 2), 20);
        x.plants(1, 1);
        x.undo();
        Check.due("planted, undone", x.count(0), 2);
        x.storm(4);
        Check.due("a storm of nothing, undone", x.undo(), 0);
        Check.due("nothing is left", x.undo(), STATE);
        Check.due("nothing changes", x.tree(0, 2), 20);
    }

    private static void knowsTen() {
        for (int deeds = 0; deeds <= 23; deeds++) {
            TallerTrees x = new TallerTrees();
            Check.years(x, deeds);
            int known = Math.min(10, deeds);
            Check.due(deeds + " done: known", x.count(4), known);
            for (int left = known - 1; left >= 0; left--) {
                Check.due(deeds + " done: more", x.undo(), left);
            }
            Check.due(deeds + " done: none", x.undo(), STATE);
            Check.due(deeds + " done: the older ones are lost", x.now(0), deeds - known);
        }
    }

    private static void knowsTenAllAround() {
        TallerTrees x = new TallerTrees();
        Check.years(x, 15);
        for (int left = 9; left >= 5; left--) {
            Check.due("five undone", x.undo(), left);
        }
        Check.due("year 10", x.now(0), 10);
        Check.years(x, 4);
        Check.due("nine", x.count(4), 9);
        Check.years(x, 1);
        Check.due("ten", x.count(4), 10);
        Check.years(x, 2);
        Check.due("ten at most", x.count(4), 10);
        for (int left = 9; left >= 0; left--) {
            Check.due("all undone", x.undo(), left);
            Check.due("year by year", x.now(0), 7 + left);
        }
        Check.due("none", x.undo(), STATE);
        Check.due("year 7", x.now(0), 7);
        x.year();
        Check.due("the only one", x.undo(), 0);
    }

    private static void undoesNoQuestions() {
        TallerTrees x = two();
        x.saw(1);
        x.mark(0, 0);
        x.type('t');
        x.keep(0);
        x.back(0);
        x.clear();
        x.saw(2);
        Check.due("none of these is done", x.undo(), STATE);
        x.year();
        x.saw(3);
        x.mark(0, 0);
        x.type('t');
        x.keep(1);
        Check.due("the year is", x.undo(), 0);
        Check.due("seen stays", x.saw(0), 3);
        Check.due("the trace stays", x.trace(), 2);
        Check.due("the text stays", x.count(5), 1);
        Check.due("the image stays", x.back(1), 1);
    }

    private static void nowOfAll() {
        TallerTrees x = Check.told("t0 0 9 0;t0 0 8 0;t0 0 7 0;t0 0 6 0;t0 0 5 0;t0 0 4 0;t0 0 3 0;"
            + "h0 0 1;h0 0 1;h0 0 1;h0 0 1;h0 0 1;h0 0 2;");
        Check.due("all covered", x.now(1), 63);
        Check.due("all premiums are 1", x.now(3), 6);
        for (int t = 0; t <= 6; t++) {
            Check.due("struck", x.storm(0), t);
            Check.due("used up", x.now(2), (2 << t) - 1);
        }
        Check.due("none covered", x.now(1), 0);
        Check.due("premiums", x.now(3), 5 * 31 + 32);
        Check.due("the highest house", x.storm(0), 105);
        Check.due("struck in all", x.now(4), 1);
    }

    private static final String FULL_FIELD = "t0 9 41 1;t1 8 42 2;t2 7 43 3;t3 6 44 4;t4 5 45 5;t5 4 46 1;t6 3 47 2;"
        + "h9 0 11;h8 9 12;h7 9 13;h6 9 14;h5 9 15;h4 9 16;r1;u2;";

    private static void field(TallerTrees x, String when, int[] high, int[] used, int[] struck) {
        int usedUp = 0;
        for (int t = 0; t <= 6; t++) {
            int[] due = {t, 9 - t, high[t], t % 5 + 1, used[t], 0};
            for (int what = 0; what <= 5; what++) {
                Check.due(when + ": tree " + t + " " + what, x.tree(t, what), due[what]);
            }
            usedUp |= used[t] > 0 ? 1 << t : 0;
        }
        for (int h = 0; h <= 5; h++) {
            int[] due = {9 - h, h == 0 ? 0 : 9, 11 + h, struck[h], 0, 41 + h};
            for (int what = 0; what <= 5; what++) {
                Check.due(when + ": house " + h + " " + what, x.house(h, what), due[what]);
            }
        }
        Check.due(when + ": used up", x.now(2), usedUp);
    }

    private static void fullField() {
        TallerTrees x = Check.told(FULL_FIELD);
        x.year();
        field(x, "a year", new int[] {42, 44, 46, 48, 50, 47, 49}, new int[7], new int[6]);
        Check.due("the highest of five", x.storm(5), 4);
        Check.due("the only one there", x.storm(0), 100);
        Check.due("the next of five", x.storm(5), 6);
        field(x, "struck", new int[] {42, 44, 46, 48, 50, 47, 49}, new int[] {0, 0, 0, 0, 2, 0, 2},
            new int[] {1, 0, 0, 0, 0, 0});
        x.year();
        field(x, "a year more", new int[] {43, 46, 49, 52, 50, 48, 49}, new int[] {0, 0, 0, 0, 1, 0, 1},
            new int[] {1, 0, 0, 0, 0, 0});
        int[] due = {2, 1, 0, 105, 105};
        for (int struck : due) {
            Check.due("one behind another", x.storm(9), struck);
        }
        x.year();
        field(x, "the last year", new int[] {43, 46, 49, 56, 50, 49, 49}, new int[] {1, 1, 1, 0, 0, 0, 0},
            new int[] {1, 0, 0, 0, 0, 2});
    }

    private static void stormOfNothingInAFullField() {
        TallerTrees x = Check.told("t0 9 41 1;t1 9 42 2;t2 9 43 3;t3 9 44 4;t4 9 45 5;t5 9 46 1;t6 9 47 2;"
            + "h9 9 11;h8 9 12;h7 9 13;h6 9 14;h5 9 15;h4 9 16;");
        for (int y = 0; y <= 6; y++) {
            Check.due("nothing along " + y, x.storm(y), NONE);
        }
        for (int t = 0; t <= 6; t++) {
            int[] due = {t, 9, 41 + t, t % 5 + 1, 0};
            for (int what = 0; what <= 4; what++) {
                Check.due("tree " + t + " is as it was " + what, x.tree(t, what), due[what]);
            }
        }
        for (int h = 0; h <= 5; h++) {
            Check.due("house " + h + " is as it was", x.house(h, 2), 11 + h);
            Check.due("house " + h + " is not struck", x.house(h, 3), 0);
        }
        Check.due("seven may be undone", x.count(4), 7);
    }

    // ---- images

    private static void keepsNow() {
        TallerTrees x = Check.told("t0 0 20 3;h9 9 9;u2;");
        x.year();
        x.storm(0);
        x.storm(9);
        Check.due("kept at year 1", x.keep(0), 1);
        x.year();
        x.storm(9);
        x.tops(0, 9);
        x.plants(0, 0);
        Check.due("back to year 1", x.back(0), 1);
        Check.due("the year", x.now(0), 1);
        Check.due("high", x.tree(0, 2), 23);
        Check.due("used up", x.tree(0, 4), 2);
        Check.due("struck", x.house(0, 3), 1);
        Check.due("trees", x.count(0), 1);
        Check.due("no second tree", x.tree(1, 0), BAD);
        Check.due("what may be undone", x.undo(), 2);
        Check.due("not struck", x.house(0, 3), 0);
        Check.due("undone", x.undo(), 1);
        Check.due("not used up", x.tree(0, 4), 0);
        Check.due("undone", x.undo(), 0);
        Check.due("not grown", x.tree(0, 2), 20);
        Check.due("year 0", x.now(0), 0);
        Check.due("none", x.undo(), STATE);
    }

    private static void keepsTenThatMayBeUndone() {
        TallerTrees x = new TallerTrees();
        Check.years(x, 13);
        x.keep(1);
        Check.years(x, 17);
        Check.due("back", x.back(1), 13);
        for (int left = 9; left >= 0; left--) {
            Check.due("ten known", x.undo(), left);
            Check.due("year by year", x.now(0), 3 + left);
        }
        Check.due("the older ones are lost", x.undo(), STATE);
        Check.due("back again", x.back(1), 13);
        Check.due("ten known again", x.count(4), 10);
        TallerTrees y = new TallerTrees();
        y.keep(0);
        Check.years(y, 5);
        Check.due("back to none known", y.back(0), 0);
        Check.due("none known", y.undo(), STATE);
    }

    private static void keepsAnew() {
        TallerTrees x = new TallerTrees();
        Check.due("year 0", x.keep(0), 0);
        x.year();
        Check.due("year 1", x.keep(0), 1);
        x.year();
        Check.due("the later one", x.back(0), 1);
        Check.due("its year is known", x.count(4), 1);
    }

    private static void backTwice() {
        TallerTrees x = Check.told("t0 0 20 3;h9 9 9;");
        x.keep(0);
        for (int i = 0; i < 3; i++) {
            x.year();
            x.tops(0, 5);
            x.plants(1, 1);
            x.storm(9);
            x.storm(0);
            Check.due("back", x.back(0), 0);
            Check.due("high as kept", x.tree(0, 2), 20);
            Check.due("not used up as kept", x.now(2), 0);
            Check.due("not struck as kept", x.now(4), 0);
            Check.due("trees as kept", x.count(0), 1);
            Check.due("none known as kept", x.count(4), 0);
        }
    }

    private static void backOfEachImage() {
        TallerTrees x = new TallerTrees();
        Check.due("no image 0", x.back(0), STATE);
        Check.due("no image 1", x.back(1), STATE);
        x.year();
        x.keep(1);
        Check.due("no image 0 still", x.back(0), STATE);
        x.year();
        x.keep(0);
        x.year();
        Check.due("image 1", x.back(1), 1);
        Check.due("its one is known", x.count(4), 1);
        Check.due("image 0", x.back(0), 2);
        Check.due("its two are known", x.count(4), 2);
        Check.due("image 1 again", x.back(1), 1);
    }

    private static void keepsNothingElse() {
        TallerTrees x = two();
        x.saw(1);
        x.mark(0, 0);
        x.type('t');
        x.keep(0);
        x.saw(2);
        x.mark(1, 0);
        x.type('1');
        x.year();
        x.keep(1);
        Check.due("back", x.back(0), 0);
        Check.due("seen stays", x.saw(0), 2);
        Check.due("the trace stays", x.trace(), 12);
        Check.due("the text stays", x.count(5), 2);
        Check.due("the other image stays", x.back(1), 1);
    }

    // ---- refused

    /** Some of everything: a deed of each kind, both images, something seen, a text. */
    private static TallerTrees lived() {
        TallerTrees x = Check.told("t1 1 20 1;h2 2 15;h5 6 60;r4;u3;");
        x.year();
        x.storm(6);
        x.keep(0);
        x.plants(9, 9);
        x.storm(9);
        x.tops(0, 2);
        x.keep(1);
        x.saw(1);
        x.mark(3, 0);
        Check.types(x, "t1");
        x.year();
        return x;
    }

    private static void refused(String call, long want, Check.Call f) {
        Check.changesNothing(call, DeedEdgesTest::lived, want, f);
    }

    private static void refusedChangesNothing() {
        refused("type below", BAD, x -> x.type(-1));
        refused("type above", BAD, x -> x.type(256));
        refused("field", -10 - 2, x -> x.field());
        refused("storm below", BAD, x -> x.storm(-1));
        refused("storm above", BAD, x -> x.storm(10));
        refused("tops below t", BAD, x -> x.tops(-1, 1));
        refused("tops above t", BAD, x -> x.tops(2, 1));
        refused("tops below n", BAD, x -> x.tops(0, 0));
        refused("tops above n", BAD, x -> x.tops(0, 61));
        refused("plants below x", BAD, x -> x.plants(-1, 0));
        refused("plants above x", BAD, x -> x.plants(10, 0));
        refused("plants below y", BAD, x -> x.plants(0, -1));
        refused("plants above y", BAD, x -> x.plants(0, 10));
        refused("saw below", BAD, x -> x.saw(-1));
        refused("saw above", BAD, x -> x.saw(4));
        refused("mark below kind", NO, x -> x.mark(-1, 0));
        refused("mark above kind", NO, x -> x.mark(6, 0));
        refused("mark below t", NO, x -> x.mark(1, -1));
        refused("mark above t", NO, x -> x.mark(1, 2));
        refused("keep below", BAD, x -> x.keep(-1));
        refused("keep above", BAD, x -> x.keep(2));
        refused("back below", BAD, x -> x.back(-1));
        refused("back above", BAD, x -> x.back(2));
    }

    private static TallerTrees inYear200() {
        TallerTrees x = Check.told("t1 1 20 1;h2 2 15;");
        Check.years(x, 200);
        return x;
    }

    private static void refusedByState() {
        TallerTrees x = inYear200();
        Check.due("year 200", x.year(), STATE);
        Check.due("year 200: the year", x.now(0), 200);
        Check.due("year 200: high", x.tree(0, 2), 99);
        Check.due("year 200: ten known", x.undo(), 9);
        Check.due("year 200: the latest was a year", x.now(0), 199);
        Check.changesNothing("no undo", DeedEdgesTest::two, STATE, y -> y.undo());
        Check.changesNothing("no image 0", DeedEdgesTest::two, STATE, y -> y.back(0));
        Check.changesNothing("no image 1", DeedEdgesTest::two, STATE, y -> y.back(1));
    }

    private static TallerTrees ofSeven() {
        TallerTrees x = two();
        for (int t = 2; t <= 6; t++) {
            x.plants(t, t);
        }
        return x;
    }

    private static void refusedByFull() {
        Check.changesNothing("full", DeedEdgesTest::ofSeven, FULL, x -> x.plants(0, 0));
        Check.changesNothing("full at the most", DeedEdgesTest::ofSeven, FULL, x -> x.plants(9, 9));
        Check.changesNothing("bad x ahead of full", DeedEdgesTest::ofSeven, BAD, x -> x.plants(10, 0));
        Check.changesNothing("bad y ahead of full", DeedEdgesTest::ofSeven, BAD, x -> x.plants(0, 10));
        Check.changesNothing("bad x below ahead of full", DeedEdgesTest::ofSeven, BAD, x -> x.plants(-1, 0));
        Check.changesNothing("bad y below ahead of full", DeedEdgesTest::ofSeven, BAD, x -> x.plants(0, -1));
    }

    private static void refusedDeedsAreNotKnown() {
        TallerTrees x = ofSeven();
        x.plants(0, 0);
        x.storm(10);
        x.tops(7, 1);
        x.tops(0, 0);
        Check.due("five of seven were planted", x.count(4), 5);
        TallerTrees y = new TallerTrees();
        Check.years(y, 200);
        for (int i = 0; i < 10; i++) {
            Check.due("no 201", y.year(), STATE);
        }
        for (int i = 0; i < 10; i++) {
            y.undo();
        }
        Check.due("ten years undone", y.now(0), 190);
    }

    private static void asked(String call, Check.Call f) {
        Check.changesNothing(call, DeedEdgesTest::lived, f.of(lived()), f);
    }

    private static void questionsChangeNothing() {
        for (int n = 0; n <= 5; n++) {
            int what = n;
            asked("tree " + n, x -> x.tree(0, what));
            asked("house " + n, x -> x.house(0, what));
            asked("now " + n, x -> x.now(what));
            asked("count " + n, x -> x.count(what));
        }
        for (int n = 0; n <= 2; n++) {
            int what = n;
            asked("where " + n, x -> x.where(40, what));
            asked("whose " + n, x -> x.whose(what));
        }
        asked("only", x -> x.only(0));
        asked("when", x -> x.when(1));
        asked("sold", x -> x.sold(0));
        asked("sold most", x -> x.sold(-1));
        asked("ribbons", x -> x.ribbons());
        asked("tracks of a tree", x -> x.tracks(0, 0));
        asked("tracks of a house", x -> x.tracks(1, 1));
        asked("odds", x -> x.odds(1, 3, 0));
        asked("war", x -> x.war(0, 0, 99));
        asked("trace", x -> x.trace());
    }
}
