import java.util.function.Supplier;

/** Boundary cases of promises 13 to 23 and of parts 3 and 4: cover, storms, wars, what was SEEN, KINDS. */
public final class AnswerEdgesTest {
    private static final int BAD = TallerTrees.BAD, NONE = TallerTrees.NONE, NO = TallerTrees.NO;

    private AnswerEdgesTest() {
    }

    public static void main(String[] args) {
        treesAlone();
        housesAlone();
        boundsOfCover();
        boundsOfStorms();
        boundsOfSeen();
        premiumIs1AtLeast();
        enoughOfAsFewTheLeast();
        enoughFromNoneToSix();
        enoughOfNow();
        enoughThatOverlap();
        onlyForNoneOneTwo();
        whenAtOnce();
        whenIn60();
        whenOfTheUsedUp();
        whenTheFirstOfSeveral();
        whenBeyond200();
        whereByNone();
        whereAsHighAsPlantedThen();
        whereTheFirstPlace();
        whereTheFirstOfTwo();
        whereFullDoesNotMatter();
        whereTwoAreTheMost();
        whereOfTheUsedUp();
        whereBeyond200();
        soldToTheHighest();
        soldMost();
        ribbonsOfNoHouses();
        ribbonsOutOfReach();
        ribbonsJustAbove();
        ribbonsTheLeastSum();
        tracksToBothEdges();
        tracksOfNow();
        oddsOfNoStorm();
        oddsInLeastTerms();
        oddsOneBehindAnother();
        oddsOfEachHouse();
        questionsInAnyOrder();
        warInYear0();
        warCoinsJustEnough();
        warOfTheUsedUp();
        warUpTo99();
        warBeyond200();
        sawAllAndNone();
        whoseOfNothingSeen();
        whoseBy1AndBy40();
        whoseTo1AtLeast();
        whoseJustThese();
        whoseOfSevenTrees();
        whoseOfTheUsedUp();
        marksOfEachKind();
        marksBelow0();
        traceOfEachBody();
        Check.end("AnswerEdgesTest");
    }

    // ---- fields that lack something

    private static void treesAlone() {
        TallerTrees x = Check.told("t0 0 9 0;t9 9 60 5;");
        Check.due("trees: covered", x.now(1), 0);
        Check.due("trees: premiums", x.now(3), 0);
        Check.due("trees: struck", x.now(4), 0);
        Check.due("trees: enough", x.now(5), 0);
        Check.due("trees: whom one covers", x.tree(0, 5), 0);
        Check.due("trees: where", x.where(0, 0), 0);
        Check.due("trees: where, first", x.where(0, 1), NONE);
        Check.due("trees: sold", x.sold(1), 0);
        Check.due("trees: sold most", x.sold(-1), NONE);
        Check.due("trees: ribbons", x.ribbons(), NONE);
        Check.due("trees: a house", x.house(0, 0), BAD);
        Check.due("trees: only", x.only(0), BAD);
        Check.due("trees: when", x.when(0), BAD);
        Check.due("trees: odds", x.odds(0, 1, 0), BAD);
        Check.due("trees: war", x.war(0, 0, 1), BAD);
        Check.due("trees: saw", x.saw(1), BAD);
        Check.due("trees: saw none", x.saw(0), NONE);
        Check.due("trees: whose", x.whose(0), 80);
        Check.due("trees: oak", x.mark(1, 0), 9);
    }

    private static void housesAlone() {
        TallerTrees x = Check.told("h0 0 9;h9 9 60;");
        Check.due("houses: covered", x.now(1), 0);
        Check.due("houses: premiums", x.now(3), 39 + 90);
        Check.due("houses: enough", x.now(5), 0);
        Check.due("houses: who covers", x.house(0, 4), 0);
        Check.due("houses: only", x.only(0), NONE);
        Check.due("houses: when", x.when(0), NONE);
        Check.due("houses: where", x.where(0, 0), NONE);
        Check.due("houses: sold", x.sold(0), BAD);
        Check.due("houses: sold most", x.sold(-1), NONE);
        Check.due("houses: ribbons", x.ribbons(), -5);
        Check.due("houses: tracks", x.tracks(1, 0), 7);
        Check.due("houses: tracks of a tree", x.tracks(0, 0), BAD);
        Check.due("houses: war", x.war(0, 0, 1), BAD);
        Check.due("houses: saw", x.saw(0), NONE);
        Check.due("houses: whose", x.whose(0), 0);
        Check.due("houses: whose, first", x.whose(1), NONE);
        Check.due("houses: whose, trees", x.whose(2), 0);
        Check.due("houses: mark", x.mark(0, 0), NO);
    }

    // ---- numbers at their bounds

    private static TallerTrees three() {
        return Check.told("t1 1 20 1;t5 5 9 2;t1 2 3 0;h2 2 15;h5 6 60;r4;u3;");
    }

    private static TallerTrees seven() {
        return Check.told("t0 0 9 0;t0 0 8 0;t0 0 7 0;t0 0 6 0;t0 0 5 0;t0 0 4 0;t0 0 3 0;"
            + "h0 0 1;h0 0 1;h0 0 1;h0 0 1;h0 0 1;h0 0 1;");
    }

    private static void boundsOfCover() {
        Supplier<TallerTrees> some = AnswerEdgesTest::three;
        Supplier<TallerTrees> all = AnswerEdgesTest::seven;
        Check.bounds("only", some, 0, 1, BAD, (x, h) -> x.only(h));
        Check.bounds("only of six", all, 0, 5, BAD, (x, h) -> x.only(h));
        Check.bounds("when", some, 0, 1, BAD, (x, h) -> x.when(h));
        Check.bounds("when of six", all, 0, 5, BAD, (x, h) -> x.when(h));
        for (int fine = 0; fine <= 2; fine++) {
            int what = fine;
            Check.bounds("where n " + what, some, 0, 40, BAD, (x, n) -> x.where(n, what));
        }
        Check.bounds("where what", some, 0, 2, BAD, (x, what) -> x.where(0, what));
        Check.bounds("where what behind 40", some, 0, 2, BAD, (x, what) -> x.where(40, what));
        Check.due("where of neither", three().where(41, 3), BAD);
        Check.bounds("sold", some, -1, 2, BAD, (x, t) -> x.sold(t));
        Check.bounds("sold of seven", all, -1, 6, BAD, (x, t) -> x.sold(t));
        Check.bounds("sold of none", TallerTrees::new, -1, -1, BAD, (x, t) -> x.sold(t));
    }

    private static void boundsOfStorms() {
        Supplier<TallerTrees> some = AnswerEdgesTest::three;
        Check.bounds("tracks what, 0", some, 0, 1, BAD, (x, what) -> x.tracks(what, 0));
        Check.bounds("tracks of trees", some, 0, 2, BAD, (x, t) -> x.tracks(0, t));
        Check.bounds("tracks of houses", some, 0, 1, BAD, (x, h) -> x.tracks(1, h));
        Check.bounds("tracks of seven trees", AnswerEdgesTest::seven, 0, 6, BAD, (x, t) -> x.tracks(0, t));
        Check.bounds("tracks of six houses", AnswerEdgesTest::seven, 0, 5, BAD, (x, h) -> x.tracks(1, h));
        Check.due("tracks: a house's number and 100 is no tree", three().tracks(0, 100), BAD);
        Check.due("tracks: a tree's number less 100 is no house", three().tracks(1, -100), BAD);
        Check.due("tracks of neither", three().tracks(2, 2), BAD);
        Check.bounds("odds h", some, 0, 1, BAD, (x, h) -> x.odds(h, 1, 0));
        Check.bounds("odds n", some, 0, 3, BAD, (x, n) -> x.odds(1, n, 0));
        Check.bounds("odds n, lower", some, 0, 3, BAD, (x, n) -> x.odds(1, n, 1));
        Check.bounds("odds what", some, 0, 1, BAD, (x, what) -> x.odds(1, 3, what));
        Check.bounds("war t", some, 0, 2, BAD, (x, t) -> x.war(t, 1, 99));
        Check.bounds("war h", some, 0, 1, BAD, (x, h) -> x.war(2, h, 0));
        Check.bounds("war n", some, 0, 99, BAD, (x, n) -> x.war(0, 0, n));
    }

    private static void boundsOfSeen() {
        Check.bounds("saw of two", AnswerEdgesTest::three, 0, 3, BAD, (x, bits) -> x.saw(bits));
        Check.bounds("saw of six", AnswerEdgesTest::seven, 0, 63, BAD, (x, bits) -> x.saw(bits));
        Check.bounds("saw of none", TallerTrees::new, 0, 0, BAD, (x, bits) -> x.saw(bits));
        Check.bounds("whose", AnswerEdgesTest::three, 0, 2, BAD, (x, what) -> x.whose(what));
        Check.bounds("whose, none is there", TallerTrees::new, 0, 2, BAD, (x, what) -> x.whose(what));
    }

    // ---- premium, enough, only

    private static void premium(int high, int trees, int due) {
        String text = "t0 0 60 0;".repeat(trees) + "h0 0 " + high + ";";
        TallerTrees x = Check.told(text);
        Check.due("premium of " + text, x.house(0, 5), due);
        Check.due("all premiums of " + text, x.now(3), due);
    }

    private static void premiumIs1AtLeast() {
        premium(1, 0, 31);
        premium(1, 2, 11);
        premium(1, 3, 1);
        premium(1, 4, 1);
        premium(2, 3, 2);
        premium(9, 4, 1);
        premium(10, 4, 1);
        premium(11, 4, 1);
        premium(12, 4, 2);
        premium(39, 7, 1);
        premium(41, 7, 1);
        premium(42, 7, 2);
        premium(1, 7, 1);
        premium(60, 7, 90);
        premium(59, 7, 19);
        premium(60, 0, 90);
    }

    private static void enoughOfAsFewTheLeast() {
        Check.due("either of two", Check.told("t0 0 9 0;t0 0 9 0;h0 0 1;").now(5), 1);
        Check.due("the later of two", Check.told("t0 0 1 0;t0 0 9 0;t0 0 9 0;h0 0 1;").now(5), 2);
        Check.due("the seventh alone", Check.told(
            "t0 0 1 0;t0 0 1 0;t0 0 1 0;t0 0 1 0;t0 0 1 0;t0 0 1 0;t0 0 9 0;h0 0 1;").now(5), 64);
        // one that covers both is fewer than two with lesser bits
        Check.due("few ahead of least", Check.told("t0 0 9 0;t4 0 9 0;t2 0 9 0;h0 0 1;h4 0 1;r2;").now(5), 4);
        Check.due("the first of two, twice",
            Check.told("t0 0 9 0;t1 0 8 0;t5 0 9 0;t6 0 9 0;h0 0 7;h1 0 7;h5 0 7;h6 0 7;r1;").now(5), 5);
        // each covers two of four; 1 and 2 cover all as 0 and 3 do, and bits 6 are less than 9
        Check.due("least bits, not least number",
            Check.told("t0 1 9 0;t1 0 9 0;t1 2 9 0;t2 1 9 0;h0 0 1;h2 0 1;h0 2 1;h2 2 1;r1;").now(5), 6);
    }

    private static void enoughFromNoneToSix() {
        StringBuilder text = new StringBuilder("r1;h0 0 1;h3 0 1;h6 0 1;h9 0 1;h0 3 1;h3 3 1;");
        Check.due("none", Check.told(text.toString()).now(5), 0);
        String[] trees = {"t0 0 9 0;", "t3 0 9 0;", "t6 0 9 0;", "t9 0 9 0;", "t0 3 9 0;", "t3 3 9 0;"};
        for (int i = 0; i < trees.length; i++) {
            text.append(trees[i]);
            Check.due("the first " + (i + 1), Check.told(text.toString()).now(5), (2 << i) - 1);
        }
        text.append("t9 9 9 0;");
        TallerTrees x = Check.told(text.toString());
        Check.due("not the seventh, which covers none", x.now(5), 63);
        x.storm(5);
        Check.due("not the used up, nor whom it covered", x.now(5), 47);
    }

    private static void enoughOfNow() {
        Check.due("not who covers in a year", Check.told("t0 0 8 5;t0 0 9 0;h0 0 8;").now(5), 2);
        Check.due("not whom one covers in a year", Check.told("t0 0 9 5;t9 9 8 5;h0 0 8;h9 9 8;").now(5), 1);
        TallerTrees x = Check.told("t0 0 9 0;t0 0 8 0;h0 0 1;u1;");
        x.storm(0);
        Check.due("not the used up", x.now(5), 2);
    }

    private static void enoughThatOverlap() {
        String houses = "h0 0 1;h2 0 1;h4 0 1;r1;";
        Check.due("all but the last", Check.told("t1 0 9 0;t3 0 9 0;t2 1 9 0;" + houses).now(5), 3);
        Check.due("all but the first", Check.told("t2 1 9 0;t1 0 9 0;t3 0 9 0;" + houses).now(5), 6);
        Check.due("all but the second", Check.told("t1 0 9 0;t2 1 9 0;t3 0 9 0;" + houses).now(5), 5);
        // trees 0 and 1 both cover the two houses between, and both are needed
        Check.due("both over one", Check.told("t1 0 9 0;t2 0 9 0;t1 1 9 0;h0 0 1;h1 0 1;h2 0 1;h3 0 1;r1;").now(5), 3);
    }

    private static void onlyForNoneOneTwo() {
        Check.due("none", Check.told("t0 0 9 0;h0 0 9;").only(0), NONE);
        Check.due("the first", Check.told("t0 0 9 0;t0 0 8 0;h0 0 8;").only(0), 0);
        Check.due("two", Check.told("t0 0 9 0;t0 0 9 0;h0 0 8;").only(0), NONE);
        Check.due("the seventh", Check.told(
            "t0 0 1 0;t0 0 1 0;t0 0 1 0;t0 0 1 0;t0 0 1 0;t0 0 1 0;t0 0 2 0;h0 0 1;").only(0), 6);
        Check.due("seven", seven().only(0), NONE);
        TallerTrees x = Check.told("t0 0 9 0;t0 0 9 0;h0 0 8;");
        x.storm(0);
        Check.due("the one that is not used up", x.only(0), 1);
        x.storm(0);
        Check.due("both used up", x.only(0), NONE);
    }

    // ---- when

    private static void whenAtOnce() {
        Check.due("covered now", Check.told("t0 0 9 5;h0 0 8;").when(0), 0);
        Check.due("in one", Check.told("t0 0 9 1;h0 0 9;").when(0), 1);
        Check.due("never without growing", Check.told("t0 0 9 0;h0 0 9;").when(0), NONE);
        Check.due("never out of reach", Check.told("t4 0 9 5;h0 0 1;").when(0), NONE);
        Check.due("never without trees", Check.told("h0 0 1;").when(0), NONE);
        Check.due("not the year of another house", Check.told("t0 0 9 1;h0 0 1;h0 0 12;").when(1), 4);
        Check.due("the last house", Check.told("t0 0 9 1;h0 0 60;h0 0 60;h0 0 60;h0 0 60;h0 0 60;h0 0 9;").when(5), 1);
    }

    private static void whenIn60() {
        Check.due("59", Check.told("t0 0 1 1;h0 0 59;").when(0), 59);
        Check.due("60", Check.told("t0 0 1 1;h0 0 60;").when(0), 60);
        TallerTrees x = Check.told("t0 0 1 1;h9 9 60;h3 0 60;u1;");
        Check.due("60 ahead of a storm", x.when(1), 60);
        x.storm(4);
        Check.due("60 behind a storm of nothing", x.when(1), 60);
        TallerTrees y = Check.told("t0 0 1 1;h0 3 60;u1;");
        y.storm(0);
        Check.due("61 is too late", y.when(0), NONE);
        y.year();
        Check.due("60 a year later", y.when(0), 60);
        Check.due("fewer by as many as it grows", Check.told("t0 0 1 5;h0 0 60;").when(0), 12);
        Check.due("one more", Check.told("t0 0 1 5;h0 0 56;").when(0), 12);
        Check.due("just not", Check.told("t0 0 1 5;h0 0 55;").when(0), 11);
    }

    private static void whenOfTheUsedUp() {
        for (int used = 1; used <= 9; used++) {
            TallerTrees x = Check.told("t0 0 10 1;h0 0 9;h0 0 10;u" + used + ";");
            x.storm(0);
            Check.due("when it is used up no more", x.when(0), used);
            Check.due("then it grows", x.when(1), used + 1);
        }
    }

    private static void whenTheFirstOfSeveral() {
        Check.due("the faster", Check.told("t0 0 9 1;t0 0 1 5;h0 0 30;").when(0), 6);
        Check.due("the higher", Check.told("t0 0 29 1;t0 0 1 5;h0 0 30;").when(0), 2);
        TallerTrees x = Check.told("t0 0 31 0;t0 0 26 1;h0 0 30;u9;");
        x.storm(0);
        Check.due("the one that is not used up", x.when(0), 5);
    }

    private static void whenBeyond200() {
        TallerTrees x = Check.told("t0 0 1 0;h9 9 60;");
        Check.years(x, 200);
        x.plants(9, 9);
        Check.due("thirty beyond 200", x.when(0), 30);
        Check.due("it is 200 still", x.now(0), 200);
    }

    // ---- where

    private static void places(TallerTrees x, int n, int many, int first, int second) {
        Check.due("where behind " + n + ": how many", x.where(n, 0), many);
        Check.due("where behind " + n + ": first", x.where(n, 1), first);
        Check.due("where behind " + n + ": second", x.where(n, 2), second);
    }

    private static void whereByNone() {
        places(Check.told("t0 0 9 0;h0 0 8;"), 0, 0, NONE, NONE);
        places(Check.told("t0 0 9 0;h0 0 8;"), 40, 0, NONE, NONE);
        places(Check.told("t0 0 1 1;h0 0 40;"), 40, 0, NONE, NONE);
        places(Check.told("t0 0 1 1;h0 0 40;"), 39, 1, 0, NONE);
        places(Check.told("t0 0 9 0;"), 0, 0, NONE, NONE);
        places(Check.told("t0 0 9 0;h0 0 9;"), 0, NONE, NONE, NONE);
    }

    private static void whereAsHighAsPlantedThen() {
        places(Check.told("h0 0 1;"), 0, NONE, NONE, NONE);
        places(Check.told("h0 0 1;"), 1, 1, 0, NONE);
        places(Check.told("h0 0 2;"), 1, 1, 0, NONE);
        places(Check.told("h0 0 3;"), 1, NONE, NONE, NONE);
        places(Check.told("h0 0 58;"), 29, 1, 0, NONE);
        places(Check.told("h0 0 59;"), 29, NONE, NONE, NONE);
        places(Check.told("h0 0 60;"), 29, NONE, NONE, NONE);
        places(Check.told("h0 0 60;"), 30, 1, 0, NONE);
        places(Check.told("h0 0 60;"), 40, 1, 0, NONE);
    }

    private static void whereTheFirstPlace() {
        places(Check.told("h5 5 1;r1;"), 1, 1, 45, NONE);
        places(Check.told("h0 5 1;r1;"), 1, 1, 4, NONE);
        places(Check.told("h9 9 1;r1;"), 1, 1, 89, NONE);
        places(Check.told("h9 0 1;r1;"), 1, 1, 80, NONE);
        places(Check.told("h9 9 1;h9 9 1;h8 9 1;h9 8 1;r1;"), 1, 1, 99, NONE);
        places(Check.told("h4 5 1;h6 5 1;r1;"), 1, 1, 55, NONE);
        places(Check.told("h9 9 1;r9;"), 1, 1, 9, NONE);
        places(Check.told("h9 9 1;h9 8 1;r9;"), 1, 1, 15, NONE);
    }

    private static void whereTheFirstOfTwo() {
        places(Check.told("h0 0 1;h9 9 1;r1;"), 1, 2, 0, 89);
        places(Check.told("h9 9 1;h0 0 1;r1;"), 1, 2, 0, 89);
        places(Check.told("h0 5 1;h5 0 1;r1;"), 1, 2, 4, 40);
        // the place that covers two houses is the second one's, though the first's alone has many ways
        places(Check.told("h2 0 1;h4 0 1;h0 9 1;r1;"), 1, 2, 8, 30);
        places(Check.told("h0 0 1;h0 2 1;h0 9 1;r1;"), 1, 2, 1, 8);
        places(Check.told("h9 9 1;h9 7 1;h8 0 1;h8 2 1;r1;"), 1, 2, 81, 98);
        // either of both could cover the middle one
        places(Check.told("h0 0 1;h2 0 1;h4 0 1;r1;"), 1, 2, 0, 30);
        places(Check.told("h0 0 1;h2 0 1;h4 0 1;r1;"), 0, NONE, NONE, NONE);
    }

    private static void whereFullDoesNotMatter() {
        String six = "t9 0 1 0;t9 0 1 0;t9 0 1 0;t9 0 1 0;t9 0 1 0;t9 0 1 0;";
        places(Check.told(six + "h0 0 1;h0 9 1;r1;"), 1, 2, 0, 8);
        places(Check.told(six + "t9 0 1 0;h0 0 1;h0 9 1;r1;"), 1, 2, 0, 8);
        places(Check.told(six + "t9 0 1 0;h0 0 1;r1;"), 1, 1, 0, NONE);
    }

    private static void whereTwoAreTheMost() {
        places(Check.told("h0 0 1;h0 9 1;h9 0 1;r1;"), 40, NONE, NONE, NONE);
        places(Check.told("t9 0 9 0;h0 0 1;h0 9 1;h9 0 1;r1;"), 40, 2, 0, 8);
        places(Check.told("h0 0 1;h0 9 60;r1;"), 29, NONE, NONE, NONE);
        places(Check.told("h0 0 1;h0 9 60;r1;"), 30, 2, 0, 8);
    }

    private static void whereOfTheUsedUp() {
        TallerTrees x = Check.told("t0 0 20 0;h0 0 9;u4;");
        x.storm(0);
        places(x, 4, 0, NONE, NONE);
        places(x, 3, NONE, NONE, NONE);
        TallerTrees y = Check.told("t0 0 20 0;h0 0 5;u4;");
        y.storm(0);
        places(y, 3, 1, 0, NONE);
        places(y, 2, NONE, NONE, NONE);
        TallerTrees z = Check.told("t0 0 10 1;h0 0 10;u2;");
        z.storm(0);
        places(z, 2, NONE, NONE, NONE);
        places(z, 3, 0, NONE, NONE);
    }

    private static void whereBeyond200() {
        TallerTrees x = Check.told("h0 0 60;");
        Check.years(x, 200);
        places(x, 30, 1, 0, NONE);
        places(x, 29, NONE, NONE, NONE);
        Check.due("nothing is planted", x.count(0), 0);
    }

    // ---- sold, ribbons

    private static void pays(TallerTrees x, int... due) {
        for (int t = 0; t < due.length; t++) {
            Check.due("houses that pay tree " + t, x.sold(t), due[t]);
        }
    }

    private static void soldToTheHighest() {
        pays(Check.told("t0 0 9 0;t0 0 10 0;t0 0 9 0;h0 0 1;"), 0, 1, 0);
        pays(Check.told("t0 0 9 0;t0 0 9 0;t0 0 9 0;h0 0 1;h0 0 2;"), 2, 0, 0);
        pays(Check.told("t0 0 8 0;t0 0 9 0;t0 0 9 0;h0 0 1;h0 0 2;"), 0, 2, 0);
        pays(Check.told("t9 9 60 0;t0 0 9 0;h0 0 8;h0 0 9;"), 0, 1);
        pays(seven(), 6, 0, 0, 0, 0, 0, 0);
        TallerTrees x = Check.told("t0 0 9 0;t0 0 8 0;h0 0 1;");
        x.storm(0);
        pays(x, 0, 1);
        x.storm(0);
        pays(x, 0, 0);
    }

    private static void soldMost() {
        Check.due("none", Check.told("t0 0 9 0;h0 0 9;").sold(-1), NONE);
        Check.due("no houses", Check.told("t0 0 9 0;").sold(-1), NONE);
        Check.due("one", Check.told("t0 0 9 0;h0 0 8;").sold(-1), 0);
        Check.due("of several the least", Check.told("t0 0 9 0;t9 9 9 0;h0 0 8;h9 9 8;").sold(-1), 0);
        Check.due("of several the least, behind one",
            Check.told("t5 0 9 0;t0 0 9 0;t9 9 9 0;h0 0 8;h9 9 8;").sold(-1), 1);
        Check.due("more", Check.told("t0 0 9 0;t9 9 9 0;h0 0 8;h9 9 8;h9 9 7;").sold(-1), 1);
        Check.due("more of the first", Check.told("t0 0 9 0;t9 9 9 0;h0 0 8;h9 9 8;h0 0 7;").sold(-1), 0);
        TallerTrees x = Check.told("t0 0 9 0;h0 0 8;");
        x.storm(0);
        Check.due("used up", x.sold(-1), NONE);
    }

    private static void ribbonsOfNoHouses() {
        Check.due("nothing at all", new TallerTrees().ribbons(), NONE);
        Check.due("trees", Check.told("t0 0 1 0;").ribbons(), NONE);
        TallerTrees x = Check.told("t0 0 1 0;");
        x.storm(0);
        Check.due("used up trees", x.ribbons(), NONE);
    }

    private static void ribbonsOutOfReach() {
        Check.due("no trees", Check.told("h0 0 1;").ribbons(), -5);
        Check.due("just out of reach", Check.told("t3 1 60 0;h0 0 1;").ribbons(), -5);
        Check.due("just in reach", Check.told("t3 0 60 0;h0 0 1;").ribbons(), 0);
        Check.due("one of two", Check.told("t0 0 60 0;h0 0 1;h9 9 1;").ribbons(), -5);
        Check.due("the first of two", Check.told("t0 0 60 0;h9 9 1;h0 0 1;").ribbons(), -5);
        TallerTrees x = Check.told("t0 0 60 0;h0 0 1;u1;");
        x.storm(0);
        Check.due("used up", x.ribbons(), -5);
        x.year();
        Check.due("no more", x.ribbons(), 0);
    }

    private static void ribbonsJustAbove() {
        Check.due("higher by 1", Check.told("t0 0 10 0;h0 0 9;").ribbons(), 0);
        Check.due("as high", Check.told("t0 0 10 0;h0 0 10;").ribbons(), 1);
        Check.due("as high as 60", Check.told("t0 0 60 0;h0 0 60;").ribbons(), 1);
        Check.due("from 1 to 61", Check.told("t0 0 1 0;h0 0 60;").ribbons(), 60);
        Check.due("six houses", Check.told(
            "t0 0 1 0;t9 0 1 0;t0 9 1 0;t9 9 1 0;t4 4 1 0;"
            + "h0 0 60;h9 0 60;h0 9 60;h9 9 60;h4 4 60;h4 4 59;r1;").ribbons(), 300);
        Check.due("each its own, not one for all", Check.told(
            "t0 0 5 0;t1 0 5 0;h0 0 5;h1 0 5;r9;").ribbons(), 1);
    }

    private static void ribbonsTheLeastSum() {
        Check.due("the higher tree", Check.told("t0 0 10 0;t0 0 12 0;h0 0 20;").ribbons(), 9);
        Check.due("the one that reaches both",
            Check.told("t0 0 19 0;t4 0 19 0;t2 0 19 0;h0 0 20;h4 0 20;r2;").ribbons(), 2);
        Check.due("both, less than the one",
            Check.told("t0 0 20 0;t4 0 20 0;t2 0 18 0;h0 0 20;h4 0 20;r2;").ribbons(), 2);
        Check.due("alike", Check.told("t0 0 20 0;t4 0 19 0;t2 0 18 0;h0 0 20;h4 0 20;r2;").ribbons(), 3);
        TallerTrees x = Check.told("t0 0 30 0;t0 0 1 0;h0 0 20;u9;");
        x.storm(0);
        Check.due("not by the used up", x.ribbons(), 20);
    }

    // ---- tracks, odds

    private static void tracksToBothEdges() {
        int[] due = {7, 15, 31, 62, 124, 248, 496, 992, 960, 896};
        for (int y = 0; y <= 9; y++) {
            TallerTrees x = Check.told("t0 " + y + " 9 0;h0 " + y + " 8;");
            Check.due("tree at Y " + y, x.tracks(0, 0), due[y]);
            Check.due("house behind a tree at Y " + y, x.tracks(1, 0), 0);
            TallerTrees z = Check.told("h3 " + y + " 1;");
            Check.due("house at Y " + y, z.tracks(1, 0), due[y]);
        }
    }

    private static void tracksOfNow() {
        TallerTrees x = Check.told("t0 4 9 5;h0 4 9;h0 9 60;u1;");
        Check.due("a tree ahead of a house", x.tracks(0, 0), 4 + 8 + 16 + 32 + 64);
        Check.due("a house behind a tree", x.tracks(1, 0), 0);
        x.storm(4);
        Check.due("used up", x.tracks(0, 0), 0);
        Check.due("the house instead", x.tracks(1, 0), 4 + 8 + 16 + 32 + 64);
        Check.due("the other house", x.tracks(1, 1), 128 + 256 + 512);
        x.year();
        Check.due("no more", x.tracks(0, 0), 4 + 8 + 16 + 32 + 64);
    }

    private static void fraction(TallerTrees x, int h, int n, int upper, int lower) {
        Check.due("upper of house " + h + " by " + n, x.odds(h, n, 0), upper);
        Check.due("lower of house " + h + " by " + n, x.odds(h, n, 1), lower);
    }

    private static void oddsOfNoStorm() {
        fraction(Check.told("h0 4 9;"), 0, 0, 0, 1);
        fraction(Check.told("t0 4 9 0;h0 4 9;"), 0, 0, 0, 1);
        fraction(Check.told("t0 4 9 0;h0 4 9;"), 0, 1, 0, 1);
        fraction(Check.told("t0 4 9 0;t0 4 9 0;h0 4 9;"), 0, 2, 0, 1);
        fraction(Check.told("t0 4 9 0;t0 4 9 0;t0 4 9 0;h0 4 9;"), 0, 3, 0, 1);
    }

    private static void oddsInLeastTerms() {
        int[][] due = {{3, 10, 51, 100, 657, 1000}, {2, 5, 16, 25, 98, 125}, {1, 2, 3, 4, 7, 8}};
        for (int y = 0; y <= 9; y++) {
            int[] of = due[Math.min(2, Math.min(y, 9 - y))];
            TallerTrees x = Check.told("h0 " + y + " 9;");
            for (int n = 1; n <= 3; n++) {
                fraction(x, 0, n, of[2 * n - 2], of[2 * n - 1]);
            }
        }
        // 1 of 10: the other house is higher and leaves but Y 0
        TallerTrees x = Check.told("h0 0 9;h0 3 10;");
        fraction(x, 0, 1, 1, 10);
        fraction(x, 0, 2, 19, 100);
        fraction(x, 0, 3, 271, 1000);
        TallerTrees y = Check.told("h0 1 9;h0 4 10;");
        fraction(y, 0, 1, 1, 5);
        fraction(y, 0, 2, 9, 25);
        fraction(y, 0, 3, 61, 125);
    }

    private static void oddsOneBehindAnother() {
        TallerTrees x = Check.told("t0 4 9 0;h0 4 9;u1;");
        fraction(x, 0, 2, 1, 4);
        fraction(x, 0, 3, 1, 2);
        x.storm(4);
        fraction(x, 0, 1, 1, 2);
        fraction(x, 0, 2, 3, 4);
        fraction(x, 0, 3, 7, 8);
        x.year();
        fraction(x, 0, 1, 0, 1);
        TallerTrees y = Check.told("t0 4 9 0;t0 4 9 0;h0 4 9;");
        fraction(y, 0, 3, 1, 8);
        TallerTrees z = Check.told("t0 4 9 0;t0 4 9 0;t0 4 9 0;t0 4 9 0;t0 4 9 0;t0 4 9 0;t0 4 9 0;h0 4 9;");
        for (int i = 0; i < 5; i++) {
            z.storm(4);
        }
        fraction(z, 0, 2, 0, 1);
        fraction(z, 0, 3, 1, 8);
        z.storm(4);
        z.storm(4);
        fraction(z, 0, 3, 7, 8);
        Check.due("seven used up", z.now(2), 127);
    }

    private static void oddsOfEachHouse() {
        TallerTrees x = Check.told("h0 0 11;h0 2 12;h0 4 13;h0 6 14;h0 8 15;h0 9 10;");
        // along Y 0 and 1 house 1 is struck, along 2 and 3 house 2, along 4 and 5 house 3, then house 4
        int[] struck = {0, 2, 2, 2, 4, 0};
        int[] upper = {0, 1, 1, 1, 2, 0};
        int[] lower = {1, 5, 5, 5, 5, 1};
        for (int h = 0; h <= 5; h++) {
            Check.due("tracks of house " + h, Integer.bitCount(x.tracks(1, h)), struck[h]);
            fraction(x, h, 1, upper[h], lower[h]);
        }
        fraction(x, 4, 2, 16, 25);
        fraction(x, 1, 3, 61, 125);
    }

    /** No question's answer depends on the question ahead of it. */
    private static void questionsInAnyOrder() {
        Check.Call[] questions = {x -> x.ribbons(), x -> x.where(1, 1), x -> x.where(40, 2), x -> x.now(5),
            x -> x.odds(0, 3, 0), x -> x.odds(1, 2, 1), x -> x.whose(0), x -> x.sold(-1), x -> x.tracks(1, 1)};
        String text = "t0 1 9 1;t4 4 8 2;t5 4 5 0;h0 0 9;h5 5 9;h1 1 8;h9 9 60;t9 8 4 1;";
        for (Check.Call first : questions) {
            for (Check.Call second : questions) {
                TallerTrees x = Check.told(text);
                x.saw(4);
                first.of(x);
                TallerTrees y = Check.told(text);
                y.saw(4);
                Check.due("the second question", second.of(x), second.of(y));
            }
        }
    }

    // ---- war

    private static void warInYear0() {
        Check.due("as high, no coin", Check.told("t0 0 10 0;h0 0 10;").war(0, 0, 0), 0);
        Check.due("as high, a coin", Check.told("t0 0 10 0;h0 0 10;").war(0, 0, 1), NONE);
        Check.due("higher, no coin", Check.told("t0 0 10 0;h0 0 11;").war(0, 0, 0), NONE);
        Check.due("lower, a coin too few", Check.told("t0 0 10 0;h0 0 5;").war(0, 0, 5), 0);
        Check.due("lower, just enough", Check.told("t0 0 10 0;h0 0 5;").war(0, 0, 6), NONE);
        Check.due("60 from 1, a coin too few", Check.told("t0 0 60 0;h0 0 1;").war(0, 0, 59), 0);
        Check.due("60 from 1, just enough", Check.told("t0 0 60 0;h0 0 1;").war(0, 0, 60), NONE);
        Check.due("far apart", Check.told("t0 0 10 0;h9 9 10;r1;").war(0, 0, 0), 0);
    }

    private static void warCoinsJustEnough() {
        TallerTrees x = Check.told("t0 0 10 1;h0 0 10;h0 0 11;h0 0 60;");
        for (int n = 0; n <= 89; n++) {
            Check.due("one a year, " + n, x.war(0, 0, n), n);
            Check.due("one a year from the second on, " + n, x.war(0, 1, n), n <= 88 ? n + 1 : NONE);
        }
        Check.due("90 are enough", x.war(0, 0, 90), NONE);
        Check.due("as high as 60 in 50 years", x.war(0, 2, 0), 50);
        TallerTrees y = Check.told("t0 0 10 3;h0 0 12;");
        Check.due("not higher in a year", y.war(0, 0, 0), 1);
        Check.due("to 14 by two", y.war(0, 0, 1), 1);
        Check.due("then to 17 by three", y.war(0, 0, 2), 2);
        Check.due("then to 17 by three", y.war(0, 0, 4), 2);
        Check.due("then to 20", y.war(0, 0, 5), 3);
    }

    private static void warOfTheUsedUp() {
        TallerTrees x = Check.told("t0 0 10 1;h0 0 10;h0 0 9;u9;");
        int before = x.war(0, 0, 20);
        x.storm(0);
        Check.due("used up", x.now(2), 1);
        Check.due("grows in a war all the same", x.war(0, 0, 20), 20);
        Check.due("as ahead of it", before, 20);
    }

    private static void warUpTo99() {
        TallerTrees x = Check.told("t0 0 1 1;h0 0 1;h0 0 2;");
        Check.due("98 coins", x.war(0, 0, 98), 98);
        Check.due("99 coins", x.war(0, 0, 99), NONE);
        Check.due("97 coins from 2", x.war(0, 1, 97), 98);
        Check.due("98 coins from 2", x.war(0, 1, 98), NONE);
        TallerTrees y = Check.told("t0 0 60 5;h0 0 60;");
        Check.due("to 96", y.war(0, 0, 35), 7);
        Check.due("to 99, not to 100", y.war(0, 0, 36), 8);
        Check.due("to 99: 39", y.war(0, 0, 39), 8);
        Check.due("to 99: 40", y.war(0, 0, 40), NONE);
        Check.years(y, 9);
        Check.due("99 now: 39", y.war(0, 0, 39), 0);
        Check.due("99 now: 40", y.war(0, 0, 40), NONE);
    }

    private static void warBeyond200() {
        TallerTrees x = Check.told("h0 0 1;");
        Check.years(x, 200);
        x.plants(0, 0);
        Check.due("year 49 from now", x.war(0, 0, 98), 49);
        Check.due("99 coins", x.war(0, 0, 99), NONE);
        Check.due("it is 200 still", x.now(0), 200);
    }

    // ---- seen

    private static void sawAllAndNone() {
        TallerTrees x = seven();
        Check.due("nothing till then", x.saw(63), NONE);
        Check.due("64 is none of six houses", x.saw(64), BAD);
        Check.due("all till then", x.saw(0), 63);
        Check.due("-1", x.saw(-1), BAD);
        Check.due("-9 is not to be told", x.saw(NONE), BAD);
        Check.due("none covered till then", x.saw(32), 0);
        Check.due("the sixth", x.saw(1), 32);
    }

    private static void seen(TallerTrees x, int bits, int many, int first, int trees) {
        x.saw(bits);
        Check.due("whose, " + bits + " seen: how many", x.whose(0), many);
        Check.due("whose, " + bits + " seen: the first", x.whose(1), first);
        Check.due("whose, " + bits + " seen: trees", x.whose(2), trees);
    }

    private static void whoseOfNothingSeen() {
        TallerTrees x = Check.told("t0 0 9 0;h0 0 9;");
        Check.due("nothing seen: how many", x.whose(0), 0);
        Check.due("nothing seen: the first", x.whose(1), NONE);
        Check.due("nothing seen: trees", x.whose(2), 0);
        seen(x, 0, 40, 1, 1);
    }

    private static void whoseBy1AndBy40() {
        seen(Check.told("t0 0 45 0;h0 0 5;"), 0, 1, 40, 1);
        seen(Check.told("t0 0 46 0;h0 0 5;"), 0, 0, NONE, 0);
        seen(Check.told("t0 0 46 0;h0 0 5;"), 1, 40, 1, 1);
        seen(Check.told("t0 0 45 0;h0 0 5;"), 1, 39, 1, 1);
        seen(Check.told("t0 0 7 0;h0 0 5;"), 1, 1, 1, 1);
        seen(Check.told("t0 0 6 0;h0 0 5;"), 1, 0, NONE, 0);
        seen(Check.told("t0 0 6 0;h0 0 5;"), 0, 40, 1, 1);
        seen(Check.told("t0 0 7 0;h0 0 5;"), 0, 39, 2, 1);
    }

    private static void whoseTo1AtLeast() {
        seen(Check.told("t0 0 1 0;h0 0 1;"), 0, 40, 1, 1);
        seen(Check.told("t0 0 3 0;h0 0 1;"), 1, 1, 1, 1);
        seen(Check.told("t0 0 3 0;h0 0 1;"), 0, 39, 2, 1);
    }

    private static void whoseJustThese() {
        String text = "t0 0 20 0;t9 9 20 0;h0 0 9;h0 0 14;h9 9 9;r1;";
        seen(Check.told(text), 7, 15, 1, 3);
        seen(Check.told(text), 5, 5, 6, 1);
        seen(Check.told(text), 4, 30, 11, 1);
        seen(Check.told(text), 3, 30, 111, 2);
        seen(Check.told(text), 0, 0, NONE, 0);
        seen(Check.told(text), 1, 0, NONE, 0);
        seen(Check.told(text), 6, 0, NONE, 0);
    }

    private static void whoseOfSevenTrees() {
        TallerTrees x = seven();
        seen(x, 63, 280, 1, 127);
        seen(x, 0, 0, NONE, 0);
        TallerTrees y = Check.told(
            "t9 9 1 0;t9 9 1 0;t9 9 1 0;t9 9 1 0;t9 9 1 0;t9 9 1 0;t0 0 60 0;h0 0 20;");
        seen(y, 0, 1, 640, 64);
        seen(y, 1, 6 * 40 + 39, 1, 127);
    }

    private static void whoseOfTheUsedUp() {
        TallerTrees x = Check.told("t0 0 10 0;t0 0 9 0;h0 0 5;u1;");
        x.storm(0);
        seen(x, 1, 40 + 3, 1, 3);
        seen(x, 0, 37, 104, 2);
        x.storm(0);
        seen(x, 0, 80, 1, 3);
        seen(x, 1, 0, NONE, 0);
    }

    // ---- kinds

    private static void marksOfEachKind() {
        TallerTrees x = Check.told("t9 0 60 5;t0 0 1 0;h9 0 1;h9 1 60;h9 9 1;");
        int[] first = {60, 61, 51, 122, 56, 60};
        int[] second = {1, 1, 1, 2, 1, 1};
        for (int kind = 0; kind <= 5; kind++) {
            Check.due("the first as " + kind, x.mark(kind, 0), first[kind]);
            Check.due("the second as " + kind, x.mark(kind, 1), second[kind]);
        }
        Check.years(x, 200);
        int[] then = {99, 101, 90, 202, 95, 299};
        for (int kind = 0; kind <= 5; kind++) {
            Check.due("in year 200 as " + kind, x.mark(kind, 0), then[kind]);
        }
    }

    private static void marksBelow0() {
        TallerTrees x = Check.told("t9 0 1 0;t9 0 8 0;t9 0 9 0;t9 0 1 3;");
        Check.due("-8", x.mark(2, 0), -8);
        Check.due("-1 is no BAD", x.mark(2, 1), -1);
        Check.due("0", x.mark(2, 2), 0);
        Check.due("-5", x.mark(4, 3), -5);
    }

    private static void traceOfEachBody() {
        long[] due = {1, 11, 101, 1011, 10101, 100001};
        for (int kind = 0; kind <= 5; kind++) {
            TallerTrees x = Check.told("t0 0 1 0;");
            Check.due("at first", x.trace(), 0);
            x.mark(kind, 0);
            Check.due("as " + kind, x.trace(), due[kind]);
            x.mark(kind, 0);
            Check.due("as " + kind + " twice", x.trace(), 2 * due[kind]);
            x.mark(kind, 1);
            x.mark(6, 0);
            Check.due("refused", x.trace(), 2 * due[kind]);
        }
        TallerTrees x = Check.told("t0 0 1 0;");
        for (int i = 1; i <= 400; i++) {
            x.mark(5, 0);
        }
        Check.due("of all calls together", x.trace(), 40000400L);
    }
}
