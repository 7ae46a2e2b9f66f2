/** For each promise: ordinary calls, the edges that the document names, wrong inputs. */
public final class PromisesTest {
    private static final int BAD = TallerTrees.BAD, STATE = TallerTrees.STATE;
    private static final int FULL = TallerTrees.FULL, NONE = TallerTrees.NONE, NO = TallerTrees.NO;

    private PromisesTest() {
    }

    public static void main(String[] args) {
        newObject();
        type();
        clear();
        fieldTakesOver();
        fieldFaults();
        fieldLimits();
        tree();
        house();
        year();
        storm();
        stormTies();
        tops();
        plants();
        undo();
        now();
        enough();
        only();
        when();
        where();
        sold();
        ribbons();
        tracks();
        odds();
        war();
        saw();
        whose();
        mark();
        keepAndBack();
        count();
        trace();
        refusedChangesNothing();
        Check.end("PromisesTest");
    }

    private static void newObject() {
        TallerTrees x = new TallerTrees();
        int[] counts = {0, 0, 3, 9, 0, 0};
        for (int what = 0; what < counts.length; what++) {
            Check.due("1 count " + what, x.count(what), counts[what]);
        }
        for (int what = 0; what <= 5; what++) {
            Check.due("1 now " + what, x.now(what), 0);
        }
        Check.due("1 trace", x.trace(), 0);
        Check.due("1 tree", x.tree(0, 0), BAD);
        Check.due("1 house", x.house(0, 0), BAD);
        Check.due("1 back", x.back(0), STATE);
        Check.due("1 undo", x.undo(), STATE);
        Check.due("1 saw", x.saw(0), NONE);
        Check.due("1 where", x.where(0, 0), 0);
        Check.due("1 ribbons", x.ribbons(), NONE);
        Check.due("1 sold", x.sold(-1), NONE);
        Check.due("1 whose", x.whose(1), NONE);
        Check.due("1 BAD", TallerTrees.BAD, -1);
        Check.due("1 STATE", TallerTrees.STATE, -2);
        Check.due("1 FULL", TallerTrees.FULL, -3);
        Check.due("1 NONE", TallerTrees.NONE, -9);
        Check.due("1 NO", TallerTrees.NO, -1000000);
    }

    private static void type() {
        TallerTrees x = new TallerTrees();
        Check.due("2 -1", x.type(-1), BAD);
        Check.due("2 256", x.type(256), BAD);
        Check.due("2 least", x.type(Integer.MIN_VALUE), BAD);
        Check.due("2 most", x.type(Integer.MAX_VALUE), BAD);
        Check.due("2 0", x.type(0), 1);
        Check.due("2 255", x.type(255), 2);
        for (int i = 3; i <= 150; i++) {
            Check.due("2 byte " + i, x.type(' '), i);
        }
        Check.due("2 full", x.type(' '), FULL);
        Check.due("2 bad ahead of full", x.type(256), BAD);
        Check.due("2 stays", x.count(5), 150);
    }

    private static void clear() {
        TallerTrees x = new TallerTrees();
        Check.due("3 empty", x.clear(), 0);
        Check.types(x, "t0;");
        Check.due("3 three", x.clear(), 3);
        Check.due("3 empty again", x.clear(), 0);
        Check.due("3 count", x.count(5), 0);
        Check.types(x, "r5;");
        Check.due("3 nothing left of the first", x.field(), 1);
        Check.due("3 reach", x.count(2), 5);
    }

    private static void fieldTakesOver() {
        TallerTrees x = Check.told("t1 2 3 4;h5 6 7;r8;u1;");
        x.year();
        x.storm(2);
        x.storm(6);
        x.saw(1);
        x.keep(0);
        x.keep(1);
        x.mark(0, 0);
        Check.types(x, " t 3 4 5 0 ; ");
        Check.due("4 items", x.field(), 1);
        Check.due("4 trees", x.count(0), 1);
        Check.due("4 houses", x.count(1), 0);
        Check.due("4 reach as at first", x.count(2), 3);
        Check.due("4 used as at first", x.count(3), 9);
        Check.due("4 nothing to undo", x.count(4), 0);
        Check.due("4 undo", x.undo(), STATE);
        Check.due("4 text empty", x.count(5), 0);
        Check.due("4 year", x.now(0), 0);
        Check.due("4 used up", x.now(2), 0);
        Check.due("4 struck", x.now(4), 0);
        Check.due("4 image 0 gone", x.back(0), STATE);
        Check.due("4 image 1 gone", x.back(1), STATE);
        Check.due("4 nothing seen", x.saw(0), NONE);
        Check.due("4 trace stays", x.trace(), 1);
        Check.due("4 tree", x.tree(0, 2), 5);
        Check.due("4 no items", x.field(), 0);
        Check.due("4 none left", x.count(0), 0);

        TallerTrees y = Check.told("h1 1 1;h2 2 2;");
        y.storm(1);
        y.storm(1);
        Check.types(y, "h1 1 1;h2 2 2;");
        y.field();
        Check.due("4 nothing struck", y.house(1, 3), 0);

        TallerTrees z = Check.told("t1 1 10 0;r2;");
        z.year();
        z.saw(0);
        z.keep(1);
        Check.types(z, "t2 2 20 0;r3;;");
        Check.due("4 fault", z.field(), -10 - 13);
        Check.due("4 text stays", z.count(5), 14);
        Check.due("4 fault again", z.field(), -10 - 13);
        Check.due("4 tree stays", z.tree(0, 2), 10);
        Check.due("4 reach stays", z.count(2), 2);
        Check.due("4 year stays", z.now(0), 1);
        Check.due("4 seen stays", z.saw(0), 0);
        Check.due("4 undo stays", z.count(4), 1);
        Check.due("4 image stays", z.back(1), 1);
        Check.due("4 clear", z.clear(), 14);
        Check.types(z, "u3;");
        z.field();
        Check.due("4 a faulty reach is not told", z.count(2), 3);
        Check.due("4 used", z.count(3), 3);
    }

    private static void fault(String text, int place) {
        Check.due("4 fault of '" + text + "'", Check.read(text), -10 - place);
    }

    private static void fieldFaults() {
        fault("t", 1);
        fault("t  ", 3);
        fault("t1", 2);
        fault("t1 ", 3);
        fault("t1 2 3 4", 8);
        fault("t1 2 3 4 ", 9);
        fault("t1 2 3;", 6);
        fault("t1 2 3 4 5;", 9);
        fault("t1 2 3 h", 7);
        fault("t1 2;3 4;", 4);
        fault("t10 0 1 0;", 1);
        fault("t0 10 1 0;", 3);
        fault("t0 0 0 0;", 5);
        fault("t0 0 61 0;", 5);
        fault("t0 0 1 6;", 7);
        fault("t0 0 100 0;", 5);
        fault("t0 0 01 0;", 5);
        fault("t0 0 00 0;", 5);
        fault("t01 0 1 0;", 1);
        fault("t-1 0 1 0;", 1);
        fault("t0,0 1 0;", 2);
        fault("h10 0 1;", 1);
        fault("h0 10 1;", 3);
        fault("h0 0 0;", 5);
        fault("h0 0 61;", 5);
        fault("h0 0 1 0;", 7);
        fault("r0;", 1);
        fault("r10;", 1);
        fault("r;", 1);
        fault("r1 1;", 3);
        fault("r1;r1;", 3);
        fault("r1;u1;r1;", 6);
        fault("u0;", 1);
        fault("u10;", 1);
        fault("u1;u1;", 3);
        TallerTrees twice = Check.told("u4;r4;");
        Check.types(twice, "u5;r5;");
        Check.due("4 u, r told once in each text", twice.field(), 2);
        fault("tt1 2 3 4;", 0);
        fault("th", 0);
        fault(" x;", 1);
        fault(" ;", 1);
        fault("r1;;", 3);
        fault("1;", 0);
        fault("999;", 0);
        fault("T", 0);
        fault("tA", 1);
        fault("xA", 0);
        fault("r1;\t", 3);
        fault("r1\n;", 2);
        fault("r1;\u00ff", 3);
        fault("\u0000", 0);
        fault("r111111111111111111111111111111111;", 1);
        fault("r 4294967297;", 2);
        fault("t 0 0 4294967297 0;", 6);
        fault("r1;x", 3);
        fault("`r1;", 0);
        fault("{r1;", 0);
        fault("r/;", 1);
        fault("r:;", 1);
    }

    private static void fieldLimits() {
        String trees = "t0 0 1 0;t9 9 60 5;t0 0 1 0;t0 0 1 0;t0 0 1 0;t0 0 1 0;t0 0 1 0;";
        String houses = "h0 0 1;h9 9 60;h0 0 1;h0 0 1;h0 0 1;h0 0 1;";
        Check.due("4 no text", Check.read(""), 0);
        Check.due("4 blanks", Check.read("   "), 0);
        Check.due("4 seven trees", Check.read(trees), 7);
        fault(trees + "t", trees.length());
        fault(trees + " t0 0 1 0;", trees.length() + 1);
        Check.due("4 six houses", Check.read(houses), 6);
        fault(houses + "h", houses.length());
        Check.due("4 all", Check.read(trees + houses + "r9;u9;"), 15);
        Check.due("4 any order, blanks", Check.read(" u 1 ;h1 2 3 ;  r2; t 4 5 6 1;h3 3 3;"), 5);
        Check.due("4 least", Check.read("r1;u1;"), 2);
        StringBuilder full = new StringBuilder(trees + houses + "r9;u9;");
        while (full.length() < 150) {
            full.append(' ');
        }
        Check.due("4 150 bytes", Check.read(full.toString()), 15);
        full.setCharAt(149, 't');
        fault(full.toString(), 149);
        StringBuilder digits = new StringBuilder("r");
        while (digits.length() < 150) {
            digits.append('1');
        }
        fault(digits.toString(), 1);
    }

    private static void tree() {
        TallerTrees x = Check.told("t1 2 30 4;t9 0 5 0;h1 2 29;h4 2 30;h3 4 1;h1 5 1;h2 5 1;u7;");
        int[] first = {1, 2, 30, 4, 0, 1 | 4 | 8};
        int[] second = {9, 0, 5, 0, 0, 0};
        for (int what = 0; what <= 5; what++) {
            Check.due("5 first " + what, x.tree(0, what), first[what]);
            Check.due("5 second " + what, x.tree(1, what), second[what]);
        }
        Check.due("5 -1", x.tree(-1, 0), BAD);
        Check.due("5 no such tree", x.tree(2, 0), BAD);
        Check.due("5 beyond", x.tree(7, 0), BAD);
        Check.due("5 most", x.tree(Integer.MAX_VALUE, 0), BAD);
        Check.due("5 what -1", x.tree(0, -1), BAD);
        Check.due("5 what 6", x.tree(0, 6), BAD);
        x.tops(1, 1);
        x.storm(0);
        Check.due("5 struck is the house", x.house(1, 3), 0);
        Check.due("5 used up", x.tree(0, 4), 7);
        Check.due("5 covers none", x.tree(0, 5), 0);
        Check.due("5 as high", x.tree(0, 2), 30);
        x.year();
        Check.due("5 a year less", x.tree(0, 4), 6);
        Check.due("5 does not grow", x.tree(0, 2), 30);
    }

    private static void house() {
        TallerTrees x = Check.told("t1 1 9 0;t1 2 8 0;t2 1 8 0;t2 2 8 0;t3 1 8 0;h1 1 7;h2 1 8;h8 8 60;");
        int[] first = {1, 1, 7, 0, 31, 1};
        int[] second = {2, 1, 8, 0, 1, 28};
        int[] third = {8, 8, 60, 0, 0, 90};
        for (int what = 0; what <= 5; what++) {
            Check.due("6 first " + what, x.house(0, what), first[what]);
            Check.due("6 second " + what, x.house(1, what), second[what]);
            Check.due("6 third " + what, x.house(2, what), third[what]);
        }
        x.storm(9);
        x.storm(6);
        Check.due("6 struck", x.house(2, 3), 2);
        Check.due("6 -1", x.house(-1, 0), BAD);
        Check.due("6 no such house", x.house(3, 0), BAD);
        Check.due("6 most", x.house(Integer.MAX_VALUE, 0), BAD);
        Check.due("6 what -1", x.house(0, -1), BAD);
        Check.due("6 what 6", x.house(0, 6), BAD);
        TallerTrees y = Check.told("t0 0 9 0;t0 0 9 0;t0 0 9 0;h0 0 1;");
        Check.due("6 premium 1", y.house(0, 5), 1);
        TallerTrees z = Check.told("t3 0 9 0;t2 2 9 0;t2 3 9 0;h0 0 1;r3;");
        Check.due("6 just in reach, not beyond", z.house(0, 4), 3);
    }

    private static void year() {
        TallerTrees x = Check.told("t0 0 58 3;t9 9 1 0;h0 0 60;u1;");
        Check.due("7 61", x.year(), 1);
        Check.due("7 year", x.now(0), 1);
        x.storm(0);
        Check.due("7 covers again, did not grow", x.year(), 1);
        Check.due("7 61 still", x.tree(0, 2), 61);
        Check.due("7 no longer used up", x.tree(0, 4), 0);
        x.year();
        Check.due("7 64", x.tree(0, 2), 64);
        Check.years(x, 11);
        Check.due("7 97", x.tree(0, 2), 97);
        x.year();
        Check.due("7 99 at most", x.tree(0, 2), 99);
        x.year();
        Check.due("7 still 99", x.tree(0, 2), 99);
        Check.due("7 grows not", x.tree(1, 2), 1);
        TallerTrees y = new TallerTrees();
        for (int i = 1; i <= 200; i++) {
            Check.due("7 year " + i, y.year(), 0);
            Check.due("7 it is " + i, y.now(0), i);
        }
        Check.due("7 200 is the last", y.year(), STATE);
        Check.due("7 200 stays", y.now(0), 200);
        Check.due("7 undone", y.undo(), 9);
        Check.due("7 199", y.now(0), 199);
        TallerTrees z = Check.told("t0 0 20 5;h0 0 9;u2;");
        z.storm(2);
        z.tops(0, 16);
        Check.due("7 used up for two", z.year(), 0);
        Check.due("7 not covering", z.year(), 0);
        Check.due("7 four still", z.tree(0, 2), 4);
        Check.due("7 nine is not higher", z.year(), 0);
        Check.due("7 fourteen", z.year(), 1);
    }

    private static void storm() {
        TallerTrees x = Check.told("t5 2 20 1;t0 5 19 0;h3 4 18;h9 0 50;u3;");
        Check.due("8 -1", x.storm(-1), BAD);
        Check.due("8 10", x.storm(10), BAD);
        Check.due("8 least", x.storm(Integer.MIN_VALUE), BAD);
        Check.due("8 bad is not known", x.count(4), 0);
        Check.due("8 house", x.storm(0), 101);
        Check.due("8 counted", x.house(1, 3), 1);
        Check.due("8 again", x.storm(2), 101);
        Check.due("8 counted twice", x.house(1, 3), 2);
        Check.due("8 tree", x.storm(4), 0);
        Check.due("8 used up", x.tree(0, 4), 3);
        Check.due("8 the next", x.storm(4), 1);
        Check.due("8 the house", x.storm(4), 100);
        Check.due("8 nothing", x.storm(9), NONE);
        Check.due("8 nothing may be undone", x.count(4), 6);
        Check.due("8 two off", x.storm(6), 100);
        Check.due("8 three off", x.storm(7), NONE);
        Check.due("8 undone", x.undo(), 7);
        Check.due("8 undone", x.undo(), 6);
        Check.due("8 house once", x.house(0, 3), 1);
    }

    private static void stormTies() {
        Check.due("8 the least x", Check.told("t5 1 9 0;t4 1 9 0;h4 1 9;h3 3 9;").storm(1), 101);
        Check.due("8 tree ahead of house", Check.told("h4 1 9;t5 1 9 0;t4 3 9 0;").storm(1), 1);
        Check.due("8 the lesser tree", Check.told("t4 3 9 0;t4 1 9 0;h4 1 9;").storm(1), 0);
        Check.due("8 the lesser house", Check.told("h4 3 9;h4 1 9;").storm(1), 100);
        Check.due("8 the least x of houses", Check.told("h4 3 9;h2 1 9;h3 1 9;").storm(1), 101);
        Check.due("8 the least x, then no more", Check.told("t5 1 9 0;h1 1 9;h3 1 9;").storm(1), 100);
        Check.due("8 the highest", Check.told("h0 3 9;h4 1 10;t0 0 9 0;").storm(1), 101);
        TallerTrees x = Check.told("t1 1 9 0;t2 1 9 0;t3 1 9 0;h2 1 9;");
        int[] due = {0, 1, 100, 100};
        for (int i = 0; i < due.length; i++) {
            Check.due("8 one behind another " + i, x.storm(3), due[i]);
        }
    }

    private static void tops() {
        TallerTrees x = Check.told("t0 0 60 0;t9 9 9 0;h0 0 50;");
        Check.due("9 by 9", x.tops(0, 9), 51);
        Check.due("9 covers yet", x.now(1), 1);
        Check.due("9 by 1", x.tops(0, 1), 50);
        Check.due("9 covers no more", x.now(1), 0);
        Check.due("9 to 1", x.tops(1, 8), 1);
        Check.due("9 1 at least", x.tops(1, 60), 1);
        Check.due("9 may be undone", x.count(4), 4);
        Check.due("9 0", x.tops(0, 0), BAD);
        Check.due("9 61", x.tops(0, 61), BAD);
        Check.due("9 -1", x.tops(0, -1), BAD);
        Check.due("9 tree -1", x.tops(-1, 1), BAD);
        Check.due("9 tree 2", x.tops(2, 1), BAD);
        Check.due("9 least", x.tops(0, Integer.MIN_VALUE), BAD);
        Check.due("9 bad is not known", x.count(4), 4);
        x.storm(0);
        Check.due("9 used up, too", x.tops(0, 10), 40);
        Check.due("9 used up still", x.tree(0, 4), 9);
    }

    private static void plants() {
        TallerTrees x = Check.told("t0 0 60 5;t0 0 60 5;t0 0 60 5;t0 0 60 5;h4 7 2;");
        Check.due("10 x -1", x.plants(-1, 0), BAD);
        Check.due("10 x 10", x.plants(10, 0), BAD);
        Check.due("10 y -1", x.plants(0, -1), BAD);
        Check.due("10 y 10", x.plants(0, 10), BAD);
        Check.due("10 number", x.plants(4, 7), 4);
        int[] planted = {4, 7, 1, 2, 0, 0};
        for (int what = 0; what <= 5; what++) {
            Check.due("10 tree " + what, x.tree(4, what), planted[what]);
        }
        Check.due("10 grows", x.year(), 1);
        Check.due("10 same place", x.plants(4, 7), 5);
        Check.due("10 corner", x.plants(9, 9), 6);
        Check.due("10 full", x.plants(0, 0), FULL);
        Check.due("10 bad ahead of full", x.plants(10, 0), BAD);
        Check.due("10 seven", x.count(0), 7);
        Check.due("10 known", x.count(4), 4);
        TallerTrees y = Check.told("t0 0 60 5;");
        y.plants(9, 9);
        y.year();
        y.storm(9);
        Check.due("10 used up", y.now(2), 2);
        y.undo();
        y.undo();
        y.undo();
        Check.due("10 one", y.count(0), 1);
        Check.due("10 gone", y.tree(1, 0), BAD);
        Check.due("10 anew", y.plants(8, 8), 1);
        Check.due("10 high 1", y.tree(1, 2), 1);
        Check.due("10 not used up", y.tree(1, 4), 0);
    }

    private static void undo() {
        TallerTrees x = Check.told("t0 0 10 1;h5 5 9;");
        Check.due("11 none", x.undo(), STATE);
        x.tops(0, 2);
        x.plants(1, 1);
        x.year();
        x.storm(5);
        x.storm(0);
        x.storm(9);
        x.saw(1);
        Check.due("11 nothing struck", x.undo(), 5);
        Check.due("11 still used up", x.now(2), 1);
        Check.due("11 tree struck", x.undo(), 4);
        Check.due("11 not used up", x.now(2), 0);
        Check.due("11 house still struck", x.house(0, 3), 1);
        Check.due("11 house struck", x.undo(), 3);
        Check.due("11 not struck", x.house(0, 3), 0);
        Check.due("11 the year", x.now(0), 1);
        Check.due("11 year", x.undo(), 2);
        Check.due("11 year 0", x.now(0), 0);
        Check.due("11 not grown", x.tree(0, 2), 8);
        Check.due("11 planted still", x.count(0), 2);
        Check.due("11 planted", x.undo(), 1);
        Check.due("11 one tree", x.count(0), 1);
        Check.due("11 topped", x.undo(), 0);
        Check.due("11 high", x.tree(0, 2), 10);
        Check.due("11 none left", x.undo(), STATE);
        Check.due("11 what was seen is not a deed", x.saw(0), 1);
        for (int i = 1; i <= 13; i++) {
            x.year();
            Check.due("11 known", x.count(4), Math.min(10, i));
        }
        for (int i = 9; i >= 0; i--) {
            Check.due("11 back by one", x.undo(), i);
            Check.due("11 year", x.now(0), 3 + i);
        }
        Check.due("11 older ones are lost", x.undo(), STATE);
        Check.due("11 year 3", x.now(0), 3);
        x.year();
        Check.due("11 again", x.undo(), 0);
    }

    private static void now() {
        TallerTrees x = Check.told("t0 0 10 1;t9 9 20 1;h0 0 9;h8 8 15;h5 0 3;u2;");
        Check.due("12 year", x.now(0), 0);
        Check.due("12 covered", x.now(1), 3);
        Check.due("12 used up", x.now(2), 0);
        Check.due("12 premiums", x.now(3), 29 + 35 + 33);
        Check.due("12 struck", x.now(4), 0);
        x.storm(0);
        x.storm(0);
        x.storm(9);
        x.storm(8);
        x.storm(8);
        Check.due("12 covered then", x.now(1), 0);
        Check.due("12 used up then", x.now(2), 3);
        Check.due("12 premiums then", x.now(3), 39 + 45 + 33);
        Check.due("12 struck then", x.now(4), 3);
        x.year();
        Check.due("12 year then", x.now(0), 1);
        TallerTrees y = Check.told("t0 0 8 5;t5 5 9 5;h0 0 8;h5 5 8;r1;");
        Check.due("12 covered now, not in a year", y.now(1), 2);
        Check.due("12 enough now, not in a year", y.now(5), 2);
        Check.due("12 -1", x.now(-1), BAD);
        Check.due("12 6", x.now(6), BAD);
    }

    private static void enough() {
        Check.due("12 of as few the least", Check.told("t0 0 9 0;t0 0 9 0;h0 0 1;").now(5), 1);
        Check.due("12 one for both", Check.told("t0 0 9 0;t2 0 9 0;t1 0 9 0;h0 0 8;h2 0 8;r1;").now(5), 4);
        Check.due("12 two and no more", Check.told("t0 0 9 0;t4 0 9 0;t9 9 9 0;h0 0 8;h4 0 8;r1;").now(5), 3);
        Check.due("12 only the covered", Check.told("t0 0 9 0;t4 0 9 0;h0 0 9;h4 0 8;h9 9 1;r1;").now(5), 2);
        Check.due("12 none covered", Check.told("t0 0 9 0;h0 0 9;").now(5), 0);
        Check.due("12 no houses", Check.told("t0 0 9 0;").now(5), 0);
        // 3 and 4 are as few as 1 and 5: bits 26 are more than bits 9
        Check.due("12 the least of two", Check.told(
            "t0 0 9 0;t9 9 9 0;t9 9 9 0;t3 0 9 0;h0 0 8;h1 0 8;h2 0 8;h3 0 8;r1;").now(5), 9);
    }

    private static void only() {
        TallerTrees x = Check.told("t0 0 10 0;t3 0 20 0;h1 0 9;h2 0 15;h9 9 1;h0 3 9;r3;");
        Check.due("13 two", x.only(0), NONE);
        Check.due("13 one", x.only(1), 1);
        Check.due("13 none", x.only(2), NONE);
        Check.due("13 the first", x.only(3), 0);
        Check.due("13 -1", x.only(-1), BAD);
        Check.due("13 no such house", x.only(4), BAD);
        x.storm(0);
        Check.due("13 the other is used up", x.only(0), 0);
    }

    private static void when() {
        TallerTrees x = Check.told("t0 0 10 1;t5 5 1 1;h0 0 9;h0 0 12;h9 9 1;h5 5 60;h5 5 59;u4;");
        Check.due("14 at once", x.when(0), 0);
        Check.due("14 in three", x.when(1), 3);
        Check.due("14 never", x.when(2), NONE);
        Check.due("14 sixty", x.when(3), 60);
        Check.due("14 fifty-nine", x.when(4), 59);
        Check.due("14 -1", x.when(-1), BAD);
        Check.due("14 no such house", x.when(5), BAD);
        x.tops(0, 2);
        Check.due("14 topped", x.when(0), 2);
        x.storm(0);
        x.storm(0);
        x.tops(0, 1);
        x.plants(9, 9);
        Check.due("14 not the house", x.tree(0, 4), 0);
        TallerTrees y = Check.told("t0 0 10 1;h0 0 9;h0 0 10;u4;");
        y.storm(0);
        Check.due("14 used up for four", y.when(0), 4);
        Check.due("14 grows from then", y.when(1), 5);
        TallerTrees z = Check.told("t5 5 1 1;h5 5 60;u1;");
        z.tops(0, 1);
        z.storm(9);
        Check.due("14 not struck", z.when(0), 60);
        TallerTrees never = Check.told("t5 5 1 1;h5 9 60;r4;u1;");
        Check.due("14 sixty, from there", never.when(0), 60);
        Check.due("14 struck", never.storm(5), 0);
        Check.due("14 sixty-one is too late", never.when(0), NONE);
        never.year();
        Check.due("14 sixty again", never.when(0), 60);
        TallerTrees late = Check.told("t0 0 1 2;h0 0 60;");
        Check.years(late, 29);
        Check.due("14 in one", late.when(0), 1);
        TallerTrees end = new TallerTrees();
        Check.types(end, "t0 0 1 0;h0 0 60;");
        end.field();
        Check.years(end, 199);
        end.plants(0, 0);
        Check.due("14 beyond 200", end.when(0), 30);
        Check.due("14 nothing is changed", end.now(0), 199);
    }

    private static void where() {
        TallerTrees x = Check.told("t0 0 1 0;t0 0 1 0;t0 0 1 0;t0 0 1 0;t0 0 1 0;t0 0 1 0;t0 0 1 0;h5 5 10;r1;");
        Check.due("15 too early", x.where(4, 0), NONE);
        Check.due("15 too early, first", x.where(4, 1), NONE);
        Check.due("15 one, full does not matter", x.where(5, 0), 1);
        Check.due("15 the first", x.where(5, 1), 45);
        Check.due("15 no second", x.where(5, 2), NONE);
        TallerTrees two = Check.told("h0 0 1;h9 9 1;r2;");
        Check.due("15 two", two.where(1, 0), 2);
        Check.due("15 first of two", two.where(1, 1), 0);
        Check.due("15 second of two", two.where(1, 2), 79);
        Check.due("15 by none", two.where(0, 0), NONE);
        Check.due("15 by none, second", two.where(0, 2), NONE);
        TallerTrees three = Check.told("h0 0 1;h9 9 1;h0 9 1;r4;");
        Check.due("15 three would do", three.where(9, 0), NONE);
        TallerTrees none = Check.told("t0 0 1 1;h0 0 20;");
        Check.due("15 none needed behind 20", none.where(20, 0), 0);
        Check.due("15 none needed, first", none.where(20, 1), NONE);
        Check.due("15 one behind 19", none.where(19, 0), 1);
        Check.due("15 at 0", none.where(19, 1), 0);
        Check.due("15 forty", Check.told("h0 0 60;").where(40, 0), 1);
        Check.due("15 thirty: 61", Check.told("h0 0 60;").where(30, 0), 1);
        Check.due("15 twenty-nine: 59", Check.told("h0 0 60;").where(29, 0), NONE);
        TallerTrees help = Check.told("t0 0 9 0;h0 0 8;h9 0 3;h0 9 3;r1;");
        Check.due("15 beside one that covers", help.where(2, 0), 2);
        Check.due("15 its first", help.where(2, 1), 8);
        Check.due("15 its second", help.where(2, 2), 80);
        Check.due("15 n -1", x.where(-1, 0), BAD);
        Check.due("15 n 41", x.where(41, 0), BAD);
        Check.due("15 what -1", x.where(0, -1), BAD);
        Check.due("15 what 3", x.where(0, 3), BAD);
        Check.due("15 nothing is planted", two.count(0), 0);
    }

    private static void sold() {
        TallerTrees x = Check.told("t0 0 10 0;t1 0 20 0;t1 0 20 0;t9 9 60 0;t5 5 5 0;h0 0 9;h1 1 9;h0 5 1;h5 5 4;u1;");
        int[] pays = {0, 2, 0, 0, 1};
        for (int t = 0; t < pays.length; t++) {
            Check.due("16 tree " + t, x.sold(t), pays[t]);
        }
        Check.due("16 most", x.sold(-1), 1);
        Check.due("16 -2", x.sold(-2), BAD);
        Check.due("16 no such tree", x.sold(5), BAD);
        x.storm(0);
        Check.due("16 used up", x.sold(1), 0);
        Check.due("16 the next", x.sold(2), 2);
        Check.due("16 the highest is last", Check.told("t0 0 5 0;t0 0 6 0;t0 0 7 0;h0 0 1;").sold(-1), 2);
        Check.due("16 the highest is first", Check.told("t0 0 7 0;t0 0 6 0;t0 0 5 0;h0 0 1;").sold(-1), 0);
        Check.due("16 alike", Check.told("t0 0 7 0;t0 0 7 0;h0 0 1;").sold(1), 0);
        Check.due("16 of several the least", Check.told("t9 9 9 0;t0 0 5 0;t5 5 9 0;h0 0 1;h5 5 1;r1;").sold(-1), 1);
        Check.due("16 none", Check.told("t9 9 1 0;h0 0 1;").sold(-1), NONE);
    }

    private static void ribbons() {
        Check.due("17 no houses", Check.told("t0 0 1 0;").ribbons(), NONE);
        Check.due("17 no trees", Check.told("h0 0 1;").ribbons(), -5);
        Check.due("17 out of reach", Check.told("t9 9 60 0;t0 0 1 0;h0 0 60;h5 5 1;r1;").ribbons(), -5);
        Check.due("17 all covered", Check.told("t0 0 10 0;h0 0 9;").ribbons(), 0);
        Check.due("17 one more", Check.told("t0 0 10 0;h0 0 10;").ribbons(), 1);
        Check.due("17 one for both", Check.told("t0 0 10 0;t1 0 12 0;h0 0 20;h1 0 30;").ribbons(), 19);
        Check.due("17 two for two", Check.told("t0 0 50 0;t9 9 1 0;h0 0 60;h9 9 3;").ribbons(), 11 + 3);
        Check.due("17 one with more is less",
            Check.told("t0 0 10 0;t2 0 29 0;t1 0 10 0;h0 0 30;h2 0 30;r1;").ribbons(), 21);
        Check.due("17 two are less", Check.told("t0 0 28 0;t2 0 29 0;t1 0 10 0;h0 0 30;h2 0 30;r1;").ribbons(), 5);
        TallerTrees x = Check.told("t0 0 40 0;t1 0 10 0;h0 0 30;u2;");
        x.storm(0);
        Check.due("17 not the used up", x.ribbons(), 21);
        x.storm(0);
        x.storm(0);
        Check.due("17 the house is struck", x.now(4), 2);
        x.tops(1, 9);
        Check.due("17 from 1", x.ribbons(), 30);
        TallerTrees y = Check.told("t0 0 40 0;h0 0 30;");
        y.storm(0);
        Check.due("17 none is left", y.ribbons(), -5);
    }

    private static void tracks() {
        TallerTrees x = Check.told("t5 0 20 0;t0 4 19 0;h9 9 5;h2 4 19;");
        Check.due("18 tree 0", x.tracks(0, 0), 7);
        Check.due("18 tree 1", x.tracks(0, 1), 8 | 16 | 32 | 64);
        Check.due("18 house 0", x.tracks(1, 0), 128 | 256 | 512);
        Check.due("18 house 1", x.tracks(1, 1), 0);
        x.storm(4);
        Check.due("18 used up", x.tracks(0, 1), 0);
        Check.due("18 house instead", x.tracks(1, 1), 8 | 16 | 32 | 64);
        Check.due("18 what -1", x.tracks(-1, 0), BAD);
        Check.due("18 what 2", x.tracks(2, 0), BAD);
        Check.due("18 tree -1", x.tracks(0, -1), BAD);
        Check.due("18 tree 2", x.tracks(0, 2), BAD);
        Check.due("18 house -1", x.tracks(1, -1), BAD);
        Check.due("18 house 2", x.tracks(1, 2), BAD);
        Check.due("18 house -100", x.tracks(1, -100), BAD);
        Check.due("18 tree 101", x.tracks(0, 101), BAD);
    }

    private static void fraction(TallerTrees x, int h, int n, int upper, int lower) {
        Check.due("19 upper of house " + h + " by " + n, x.odds(h, n, 0), upper);
        Check.due("19 lower of house " + h + " by " + n, x.odds(h, n, 1), lower);
    }

    private static void odds() {
        TallerTrees x = Check.told("h0 0 9;h0 5 9;t9 9 9 0;");
        fraction(x, 0, 0, 0, 1);
        fraction(x, 0, 1, 3, 10);
        fraction(x, 0, 2, 51, 100);
        fraction(x, 0, 3, 657, 1000);
        fraction(x, 1, 1, 1, 2);
        fraction(x, 1, 2, 3, 4);
        fraction(x, 1, 3, 7, 8);
        // a tree ahead of the house: first the tree, then the house, both along Y 0 .. 2
        TallerTrees y = Check.told("t0 0 10 0;h0 0 9;");
        fraction(y, 0, 1, 0, 1);
        fraction(y, 0, 2, 9, 100);
        fraction(y, 0, 3, 27, 125);
        TallerTrees z = Check.told("t0 0 12 0;t0 0 11 0;t0 0 10 0;h0 0 9;");
        fraction(z, 0, 3, 0, 1);
        z.storm(1);
        fraction(z, 0, 3, 27, 1000);
        z.storm(1);
        z.storm(1);
        fraction(z, 0, 1, 3, 10);
        fraction(Check.told("h0 4 9;h0 9 1;h0 0 1;"), 0, 3, 7, 8);
        Check.due("19 used up is not kept", z.now(2), 7);
        Check.due("19 h -1", x.odds(-1, 0, 0), BAD);
        Check.due("19 h 2", x.odds(2, 0, 0), BAD);
        Check.due("19 n -1", x.odds(0, -1, 0), BAD);
        Check.due("19 n 4", x.odds(0, 4, 0), BAD);
        Check.due("19 what -1", x.odds(0, 0, -1), BAD);
        Check.due("19 what 2", x.odds(0, 0, 2), BAD);
    }

    private static void war() {
        TallerTrees x = Check.told("t0 0 10 5;t0 0 10 0;t0 0 60 1;h9 9 10;h9 9 9;h9 9 11;h0 0 60;u9;");
        Check.due("20 no coin", x.war(0, 0, 0), 0);
        Check.due("20 a coin", x.war(0, 0, 1), 1);
        Check.due("20 five", x.war(0, 0, 5), 1);
        Check.due("20 six", x.war(0, 0, 6), 2);
        Check.due("20 grows to 99: 90 coins", x.war(0, 0, 90), NONE);
        Check.due("20 89 coins", x.war(0, 0, 89), 18);
        Check.due("20 one higher from the first", x.war(1, 2, 0), NONE);
        Check.due("20 two coins", x.war(1, 1, 1), 0);
        Check.due("20 two coins are enough", x.war(1, 1, 2), NONE);
        Check.due("20 one a year", x.war(2, 3, 20), 20);
        Check.due("20 tree 3", x.war(3, 0, 0), BAD);
        Check.due("20 tree -1", x.war(-1, 0, 0), BAD);
        Check.due("20 house 4", x.war(0, 4, 0), BAD);
        Check.due("20 house -1", x.war(0, -1, 0), BAD);
        Check.due("20 n -1", x.war(0, 0, -1), BAD);
        Check.due("20 n 100", x.war(0, 0, 100), BAD);
        x.storm(0);
        x.storm(0);
        Check.due("20 house 3 was struck ahead of none", x.now(2), 4);
        Check.due("20 used up, too", x.war(2, 3, 20), 20);
        x.year();
        Check.due("20 from now", x.war(0, 0, 5), 0);
        Check.due("20 nothing is changed", x.tree(0, 2), 15);
        Check.due("20 nothing is built", x.house(0, 2), 10);
    }

    private static void saw() {
        TallerTrees x = Check.told("h0 0 1;h0 0 1;");
        Check.due("21 -1", x.saw(-1), BAD);
        Check.due("21 -9", x.saw(-9), BAD);
        Check.due("21 no such house", x.saw(4), BAD);
        Check.due("21 nothing till then", x.saw(3), NONE);
        Check.due("21 three", x.saw(0), 3);
        Check.due("21 none", x.saw(2), 0);
        Check.due("21 bad", x.saw(5), BAD);
        Check.due("21 bad changes nothing", x.saw(1), 2);
        Check.due("21 no house", new TallerTrees().saw(1), BAD);
    }

    private static void whose() {
        TallerTrees x = Check.told("t0 0 10 0;t0 0 8 0;t9 9 30 0;h0 0 5;h0 0 8;h9 9 7;h9 9 20;r1;");
        Check.due("22 nothing seen", x.whose(0), 0);
        Check.due("22 nothing seen, first", x.whose(1), NONE);
        Check.due("22 nothing seen, trees", x.whose(2), 0);
        x.saw(13);
        Check.due("22 tree 0 by 2 and more", x.whose(0), 39);
        Check.due("22 first", x.whose(1), 2);
        Check.due("22 trees", x.whose(2), 1);
        x.saw(15);
        Check.due("22 all covered still: 1 of 0, 40 of 1, 9 of 2", x.whose(0), 1 + 40 + 9);
        Check.due("22 all, first", x.whose(1), 1);
        Check.due("22 all, trees", x.whose(2), 7);
        x.saw(7);
        Check.due("22 tree 2 by 10 .. 22", x.whose(0), 13);
        Check.due("22 its first", x.whose(1), 210);
        Check.due("22 its trees", x.whose(2), 4);
        x.saw(3);
        Check.due("22 tree 2 by 23 .. 40", x.whose(0), 18);
        x.saw(0);
        Check.due("22 none", x.whose(0), 0);
        Check.due("22 none, first", x.whose(1), NONE);
        Check.due("22 none, trees", x.whose(2), 0);
        Check.due("22 what -1", x.whose(-1), BAD);
        Check.due("22 what 3", x.whose(3), BAD);
        Check.due("22 nothing is topped", x.tree(2, 2), 30);
        TallerTrees y = Check.told("t0 0 10 0;h0 0 5;");
        y.storm(0);
        y.saw(0);
        Check.due("22 used up, too", y.whose(0), 40);
        y.saw(1);
        Check.due("22 used up covers none", y.whose(0), 0);
        y.undo();
        Check.due("22 by 1 .. 4", y.whose(0), 4);
        TallerTrees z = Check.told("t0 0 10 5;t9 9 8 5;h0 0 12;h9 9 9;h9 0 1;");
        z.saw(0);
        Check.due("22 now, not in a year", z.whose(0), 80);
    }

    private static void mark() {
        TallerTrees x = Check.told("t9 3 2 5;t2 2 40 1;h2 2 3;h2 3 30;h2 4 40;");
        x.year();
        int[] first = {7, 7, 7 - 9, 14, 7 - 9 + 5, 8};
        int[] second = {41, 44, 39, 88, 40, 42};
        for (int kind = 0; kind <= 5; kind++) {
            Check.due("23 first as " + kind, x.mark(kind, 0), first[kind]);
            Check.due("23 second as " + kind, x.mark(kind, 1), second[kind]);
        }
        Check.due("23 covers now, not in a year", Check.told("t0 0 5 5;h0 0 5;").mark(1, 0), 5);
        Check.due("23 below 0", Check.told("t9 0 1 0;").mark(2, 0), -8);
        Check.due("23 -9", Check.told("t9 0 1 0;").mark(4, 0), -8);
        long before = x.trace();
        Check.due("23 kind -1", x.mark(-1, 0), NO);
        Check.due("23 kind 6", x.mark(6, 0), NO);
        Check.due("23 tree -1", x.mark(0, -1), NO);
        Check.due("23 tree 2", x.mark(0, 2), NO);
        Check.due("23 bad asks none", x.trace(), before);
    }

    private static void keepAndBack() {
        TallerTrees x = Check.told("t0 0 10 1;h5 5 9;u3;");
        Check.due("24 -1", x.keep(-1), BAD);
        Check.due("24 2", x.keep(2), BAD);
        Check.due("25 -1", x.back(-1), BAD);
        Check.due("25 2", x.back(2), BAD);
        Check.due("25 none 0", x.back(0), STATE);
        x.year();
        x.storm(0);
        x.storm(5);
        Check.due("24 year 1", x.keep(0), 1);
        Check.due("24 nothing to be undone by it", x.count(4), 3);
        Check.due("25 none 1", x.back(1), STATE);
        x.year();
        x.plants(3, 3);
        x.tops(0, 5);
        x.storm(5);
        x.saw(1);
        x.mark(1, 0);
        x.type('t');
        Check.due("24 year 2", x.keep(1), 2);
        Check.due("25 year 1", x.back(0), 1);
        Check.due("25 one tree", x.count(0), 1);
        Check.due("25 high", x.tree(0, 2), 11);
        Check.due("25 used up", x.tree(0, 4), 3);
        Check.due("25 struck", x.house(0, 3), 1);
        Check.due("25 known", x.count(4), 3);
        Check.due("25 seen stays", x.saw(0), 1);
        Check.due("25 trace stays", x.trace(), 11);
        Check.due("25 text stays", x.count(5), 1);
        Check.due("25 undone", x.undo(), 2);
        Check.due("25 not struck", x.house(0, 3), 0);
        Check.due("25 undone", x.undo(), 1);
        Check.due("25 not used up", x.tree(0, 4), 0);
        Check.due("25 the other", x.back(1), 2);
        Check.due("25 two trees", x.count(0), 2);
        Check.due("25 topped", x.tree(0, 2), 6);
        Check.due("25 struck twice", x.house(0, 3), 2);
        Check.due("25 known 7", x.count(4), 7);
        for (int i = 6; i >= 4; i--) {
            Check.due("25 undone by the other's past", x.undo(), i);
        }
        Check.due("25 not yet topped", x.tree(0, 2), 11);
        Check.due("25 not yet planted", x.count(0), 1);
        Check.due("25 the first again", x.back(0), 1);
        Check.due("25 known 3", x.count(4), 3);
        x.year();
        Check.due("24 kept anew", x.keep(0), 2);
        x.undo();
        Check.due("25 year 2 now", x.back(0), 2);
        Check.due("25 known 4", x.count(4), 4);
    }

    private static void count() {
        TallerTrees x = Check.told("t0 0 1 0;t0 0 1 0;h0 0 1;r7;u5;");
        x.year();
        x.type('x');
        x.type('y');
        int[] due = {2, 1, 7, 5, 1, 2};
        for (int what = 0; what <= 5; what++) {
            Check.due("26 " + what, x.count(what), due[what]);
        }
        Check.due("26 -1", x.count(-1), BAD);
        Check.due("26 6", x.count(6), BAD);
    }

    private static void trace() {
        TallerTrees x = Check.told("t0 0 1 0;");
        long[] due = {1, 11, 101, 1011, 10101, 100001};
        long sum = 0;
        for (int kind = 0; kind <= 5; kind++) {
            x.mark(kind, 0);
            sum += due[kind];
            Check.due("27 by kind " + kind, x.trace(), sum);
        }
        x.year();
        x.keep(0);
        x.mark(0, 0);
        x.undo();
        x.back(0);
        x.field();
        Check.due("27 stays", x.trace(), sum + 1);
    }

    private static void refusedChangesNothing() {
        TallerTrees x = Check.told("t3 3 9 1;h3 3 5;");
        x.year();
        x.storm(99);
        x.tops(5, 5);
        x.tops(0, 100);
        x.plants(10, 10);
        x.keep(9);
        x.back(0);
        x.saw(9);
        Check.due("refused: known", x.count(4), 1);
        Check.due("refused: high", x.tree(0, 2), 10);
        Check.due("refused: trees", x.count(0), 1);
        Check.due("refused: seen", x.saw(0), NONE);
    }
}
