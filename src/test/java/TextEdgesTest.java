/** Boundary cases of promises 1 to 4 and of part 1: an empty field, THE TEXT, its TOKENS, ITEMS and FAULT. */
public final class TextEdgesTest {
    private static final int BAD = TallerTrees.BAD, STATE = TallerTrees.STATE;
    private static final int FULL = TallerTrees.FULL, NONE = TallerTrees.NONE, NO = TallerTrees.NO;

    private static final String SEVEN_TREES = "t0 0 1 0;t0 0 1 0;t0 0 1 0;t0 0 1 0;t0 0 1 0;t0 0 1 0;t0 0 1 0;";
    private static final String SIX_HOUSES = "h0 0 1;h0 0 1;h0 0 1;h0 0 1;h0 0 1;h0 0 1;";

    private TextEdgesTest() {
    }

    public static void main(String[] args) {
        emptyField("new", new TallerTrees());
        emptyField("told nothing", toldNothingBehind("t1 1 9 1;h1 1 8;r5;u5;"));
        deedsInAnEmptyField();
        typeTakesBytes();
        typeIsFullAt150();
        clearEmptiesAnyLength();
        textOf150BytesIsRead();
        textOf150BytesCanBeFaulty();
        textOf150BytesCanEndTooEarly();
        noItems();
        eachNumberInItsBounds();
        numberWithZerosAhead();
        seventhTreeAndEighth();
        sixthHouseAndSeventh();
        reachAndUsedOnceEach();
        notToldIsAsAtFirst();
        textThatEndsTooEarly();
        blanksAnywhere();
        eachByteFirst();
        eachByteBehindLetters();
        eachByteBehindANumber();
        eachByteBehindAnItem();
        lettersSideBySide();
        tooManyNumbers();
        tooFewNumbers();
        firstOfSeveralFaults();
        faultChangesNothing();
        readAnew();
        Check.end("TextEdgesTest");
    }

    private static TallerTrees toldNothingBehind(String text) {
        TallerTrees x = Check.told(text);
        x.year();
        x.storm(1);
        x.saw(1);
        x.keep(0);
        Check.due("told nothing", x.field(), 0);
        return x;
    }

    private static void emptyField(String which, TallerTrees x) {
        int[] counts = {0, 0, 3, 9, 0, 0};
        for (int what = 0; what <= 5; what++) {
            Check.due(which + ": count " + what, x.count(what), counts[what]);
            Check.due(which + ": now " + what, x.now(what), 0);
            Check.due(which + ": tree " + what, x.tree(0, what), BAD);
            Check.due(which + ": house " + what, x.house(0, what), BAD);
            Check.due(which + ": mark " + what, x.mark(what, 0), NO);
        }
        Check.due(which + ": undo", x.undo(), STATE);
        Check.due(which + ": tops", x.tops(0, 1), BAD);
        Check.due(which + ": only", x.only(0), BAD);
        Check.due(which + ": when", x.when(0), BAD);
        Check.due(which + ": where, how many", x.where(40, 0), 0);
        Check.due(which + ": where, the first", x.where(40, 1), NONE);
        Check.due(which + ": where, the second", x.where(40, 2), NONE);
        Check.due(which + ": sold, a tree", x.sold(0), BAD);
        Check.due(which + ": sold, most", x.sold(-1), NONE);
        Check.due(which + ": ribbons", x.ribbons(), NONE);
        Check.due(which + ": tracks of a tree", x.tracks(0, 0), BAD);
        Check.due(which + ": tracks of a house", x.tracks(1, 0), BAD);
        Check.due(which + ": odds", x.odds(0, 0, 0), BAD);
        Check.due(which + ": war", x.war(0, 0, 0), BAD);
        Check.due(which + ": whose, nothing seen", x.whose(0), 0);
        Check.due(which + ": whose, first, nothing seen", x.whose(1), NONE);
        Check.due(which + ": whose, trees, nothing seen", x.whose(2), 0);
        Check.due(which + ": saw 1", x.saw(1), BAD);
        Check.due(which + ": saw 0", x.saw(0), NONE);
        Check.due(which + ": saw 0 again", x.saw(0), 0);
        Check.due(which + ": whose, nothing covered seen", x.whose(0), 0);
        Check.due(which + ": whose, first, nothing covered seen", x.whose(1), NONE);
        Check.due(which + ": whose, trees, nothing covered seen", x.whose(2), 0);
        Check.due(which + ": back 0", x.back(0), STATE);
        Check.due(which + ": back 1", x.back(1), STATE);
        Check.due(which + ": keep", x.keep(1), 0);
        Check.due(which + ": back", x.back(1), 0);
        Check.due(which + ": clear", x.clear(), 0);
        Check.due(which + ": trace", x.trace(), 0);
    }

    private static void deedsInAnEmptyField() {
        TallerTrees x = new TallerTrees();
        Check.due("a year in an empty field", x.year(), 0);
        for (int y = 0; y <= 9; y++) {
            Check.due("a storm in an empty field", x.storm(y), NONE);
        }
        Check.due("ten may be undone, the year is lost", x.count(4), 10);
        Check.due("a tree in an empty field", x.plants(9, 9), 0);
        Check.due("a storm then", x.storm(7), 0);
        Check.due("undone", x.undo(), 9);
        Check.due("undone", x.undo(), 8);
        Check.due("an empty field again", x.count(0), 0);
        Check.due("of year 1", x.now(0), 1);
    }

    // ---- promises 2, 3

    private static void typeTakesBytes() {
        Check.bounds("type", TallerTrees::new, 0, 255, BAD, (x, c) -> x.type(c));
        TallerTrees x = new TallerTrees();
        for (int c = 0; c <= 255; c += 51) {
            Check.due("how many bytes behind " + c, x.type(c), c / 51 + 1);
        }
        x.type(-1);
        x.type(256);
        Check.due("a refused byte is not in the text", x.count(5), 6);
    }

    private static TallerTrees typed(int blanks) {
        TallerTrees x = new TallerTrees();
        for (int i = 1; i <= blanks; i++) {
            Check.due("byte " + i, x.type(' '), i);
        }
        return x;
    }

    private static void typeIsFullAt150() {
        TallerTrees x = typed(149);
        Check.due("byte 150", x.type('t'), 150);
        Check.due("byte 151", x.type('t'), FULL);
        Check.due("byte 0 as 151st", x.type(0), FULL);
        Check.due("byte 255 as 151st", x.type(255), FULL);
        Check.due("-1 is bad ahead of full", x.type(-1), BAD);
        Check.due("256 is bad ahead of full", x.type(256), BAD);
        Check.due("150 bytes stay", x.count(5), 150);
        Check.due("the 150th is read", x.field(), -10 - 150);
        Check.due("full still", x.type(' '), FULL);
        Check.due("150 bytes are cleared", x.clear(), 150);
        Check.due("room again", x.type('u'), 1);
        TallerTrees read = typed(150);
        Check.due("150 blanks are read", read.field(), 0);
        Check.due("room when read", read.type(' '), 1);
    }

    private static void clearEmptiesAnyLength() {
        for (int bytes : new int[] {0, 1, 149, 150}) {
            TallerTrees x = typed(bytes);
            Check.due("clear of " + bytes, x.clear(), bytes);
            Check.due("empty then", x.count(5), 0);
            Check.due("clear again", x.clear(), 0);
        }
    }

    // ---- promise 4: the text's length, its items

    private static String blanks(int many) {
        return " ".repeat(many);
    }

    private static void textOf150BytesIsRead() {
        String items = SEVEN_TREES + SIX_HOUSES + "r9;u9;";
        Check.due("15 items, blanks behind", Check.read(items + blanks(150 - items.length())), 15);
        Check.due("15 items, blanks ahead", Check.read(blanks(150 - items.length()) + items), 15);
        Check.due("blanks ahead of the last stop", Check.read("r9" + blanks(147) + ";"), 1);
    }

    private static void textOf150BytesCanBeFaulty() {
        Check.fault(blanks(149) + ";", 149);
        Check.fault("r9;" + blanks(146) + "r", 149);
        Check.fault("r" + "9".repeat(149), 1);
        Check.fault("t".repeat(150), 0);
    }

    private static void textOf150BytesCanEndTooEarly() {
        Check.fault(blanks(149) + "t", 150);
        Check.fault("r9" + blanks(148), 150);
        Check.fault("t1 2 3 4" + blanks(142), 150);
        Check.fault("t1 2 60" + blanks(142) + "5", 150);
    }

    private static void noItems() {
        Check.due("no bytes", Check.read(""), 0);
        Check.due("one blank", Check.read(" "), 0);
        Check.due("149 blanks", Check.read(blanks(149)), 0);
    }

    // ---- numbers

    /** Reads the text with each number in the place of #; only those of the bounds can stand there. */
    private static void numbersFor(String text, int least, int most) {
        int at = text.indexOf('#');
        for (int n = 0; n <= 130; n++) {
            String told = text.replace("#", Integer.toString(n));
            if (n >= least && n <= most) {
                Check.due("items of " + told, Check.read(told), 1);
            } else {
                Check.fault(told, at);
            }
        }
        for (String wrong : new String[] {"00", "000", "0" + least, "0" + most, "010", "099", "100", "256", "999",
                "1000", "4294967297", "18446744073709551617", "-1", "+1", ".5", "$", ";"}) {
            Check.fault(text.replace("#", wrong), at);
        }
    }

    private static void eachNumberInItsBounds() {
        numbersFor("t# 1 1 1;", 0, 9);
        numbersFor("t1 # 1 1;", 0, 9);
        numbersFor("t1 1 # 1;", 1, 60);
        numbersFor("t1 1 1 #;", 0, 5);
        numbersFor("h# 1 1;", 0, 9);
        numbersFor("h1 # 1;", 0, 9);
        numbersFor("h1 1 #;", 1, 60);
        numbersFor("r#;", 1, 9);
        numbersFor("u#;", 1, 9);
        int[] least = {0, 0, 1, 0};
        int[] most = {9, 9, 60, 5};
        TallerTrees x = Check.told("t0 0 1 0;t9 9 60 5;h0 0 1;h9 9 60;");
        for (int what = 0; what <= 3; what++) {
            Check.due("least of a tree " + what, x.tree(0, what), least[what]);
            Check.due("most of a tree " + what, x.tree(1, what), most[what]);
            if (what <= 2) {
                Check.due("least of a house " + what, x.house(0, what), least[what]);
                Check.due("most of a house " + what, x.house(1, what), most[what]);
            }
        }
        for (int n = 1; n <= 9; n++) {
            TallerTrees y = Check.told("r" + n + ";u" + (10 - n) + ";");
            Check.due("reach " + n, y.count(2), n);
            Check.due("used " + (10 - n), y.count(3), 10 - n);
        }
    }

    private static void numberWithZerosAhead() {
        Check.due("one 0 is a number", Check.read("t0 0 10 0;"), 1);
        Check.fault("t 00 0 1 0;", 2);
        Check.fault("t 01 0 1 0;", 2);
        Check.fault("t0 00 1 0;", 3);
        Check.fault("t0 0 01 0;", 5);
        Check.fault("t0 0 060 0;", 5);
        Check.fault("t0 0 1 05;", 7);
        Check.fault("r03;", 1);
        Check.fault("u1;r03;", 4);
    }

    // ---- as many as may be

    private static void seventhTreeAndEighth() {
        TallerTrees x = Check.told(SEVEN_TREES);
        Check.due("seven trees", x.count(0), 7);
        int at = SEVEN_TREES.length();
        Check.fault(SEVEN_TREES + "t", at);
        Check.fault(SEVEN_TREES + "t1 1 1 1;", at);
        Check.fault(SEVEN_TREES + "  t99", at + 2);
        Check.fault(SEVEN_TREES + "h1 1 1;t1 1 1 1;", at + 7);
        Check.due("seven trees, then others", Check.read(SEVEN_TREES + SIX_HOUSES + "u1;r1;"), 15);
    }

    private static void sixthHouseAndSeventh() {
        TallerTrees x = Check.told(SIX_HOUSES);
        Check.due("six houses", x.count(1), 6);
        int at = SIX_HOUSES.length();
        Check.fault(SIX_HOUSES + "h", at);
        Check.fault(SIX_HOUSES + "h1 1 1;", at);
        Check.fault(SIX_HOUSES + " h99", at + 1);
        Check.fault(SIX_HOUSES + "t1 1 1 1;h1 1 1;", at + 9);
        Check.due("six houses, then others", Check.read(SIX_HOUSES + SEVEN_TREES + "r1;u1;"), 15);
    }

    private static void reachAndUsedOnceEach() {
        Check.due("each once", Check.read("r1;u1;"), 2);
        Check.due("each once, u first", Check.read("u9;r9;"), 2);
        Check.fault("r1;r", 3);
        Check.fault("r1;r1;", 3);
        Check.fault("r3;u9; r3;", 7);
        Check.fault("u1;u", 3);
        Check.fault("u1;u1;", 3);
        Check.fault("u9;r3; u9;", 7);
        TallerTrees x = Check.told("r4;u5;");
        Check.types(x, "r6;u7;");
        Check.due("each once in another text", x.field(), 2);
        Check.due("reach of the other", x.count(2), 6);
        Check.due("used of the other", x.count(3), 7);
        Check.types(x, "r8;r9;");
        Check.due("the second reach", x.field(), -10 - 3);
        x.clear();
        Check.types(x, "r8;");
        Check.due("once behind a faulty text", x.field(), 1);
    }

    private static void notToldIsAsAtFirst() {
        TallerTrees x = Check.told("r1;u1;");
        Check.types(x, "u2;");
        x.field();
        Check.due("reach is 3 at first", x.count(2), 3);
        Check.types(x, "r2;");
        x.field();
        Check.due("used is 9 at first", x.count(3), 9);
        TallerTrees y = Check.told("t0 0 10 0;h3 0 9;h2 2 9;h3 1 9;");
        Check.due("reach 3", y.now(1), 3);
        y.storm(0);
        Check.due("used up for 9 years", y.tree(0, 4), 9);
    }

    // ---- the text's end, blanks, bytes

    private static void textThatEndsTooEarly() {
        String text = "t1 2 13 4;h5 6 17;r8;u9;";
        int items = 0;
        for (int bytes = 0; bytes <= text.length(); bytes++) {
            String told = text.substring(0, bytes);
            boolean isWhole = told.isEmpty() || told.endsWith(";");
            items += told.endsWith(";") ? 1 : 0;
            Check.due("the first " + bytes, Check.read(told), isWhole ? items : -10 - bytes);
            Check.due("the first " + bytes + ", three blanks", Check.read(told + "   "), isWhole ? items : -13 - bytes);
        }
    }

    private static void blanksAnywhere() {
        Check.due("none needed", Check.read("t1 2 3 4;h5 6 7;r8;u9;"), 4);
        Check.due("one each", Check.read(" t 1 2 3 4 ; h 5 6 7 ; r 8 ; u 9 ; "), 4);
        Check.due("three each", Check.read("   t   1   2   3   4   ;   h   5   6   7   ;   r   8   ;   "), 3);
        TallerTrees x = Check.told("t  1 2  13   4 ;");
        int[] due = {1, 2, 13, 4};
        for (int what = 0; what <= 3; what++) {
            Check.due("a number between blanks " + what, x.tree(0, what), due[what]);
        }
        Check.fault("t1 2 1 3 4;", 9);
        Check.fault("r 1 0;", 4);
        for (char other : new char[] {0, '\t', '\n', '\r', 31, 33, 160}) {
            Check.fault("r1;" + other + "u1;", 3);
        }
    }

    private static boolean isLetter(int c) {
        return c >= 'a' && c <= 'z';
    }

    private static boolean isDigit(int c) {
        return c >= '0' && c <= '9';
    }

    private static void eachByteFirst() {
        for (int c = 0; c <= 255; c++) {
            boolean begins = c == 't' || c == 'h' || c == 'r' || c == 'u';
            int due = c == ' ' ? 0 : begins ? -10 - 1 : -10;
            Check.due("byte " + c, Check.read("" + (char) c), due);
        }
    }

    private static void eachByteBehindLetters() {
        for (int c = 0; c <= 255; c++) {
            int place = isLetter(c) ? 0 : isDigit(c) || c == ' ' ? 2 : 1;
            Check.fault("t" + (char) c, place);
        }
    }

    private static void eachByteBehindANumber() {
        for (int c = 0; c <= 255; c++) {
            int due = c == ';' ? 1 : isDigit(c) ? -10 - 1 : c == ' ' ? -10 - 3 : -10 - 2;
            Check.due("r1 and byte " + c, Check.read("r1" + (char) c), due);
        }
        for (int c = '0'; c <= '9'; c++) {
            Check.fault("t1 1 1" + (char) c, 7);
            Check.due("two digits", Check.read("h1 1 1" + (char) c + ";"), 1);
        }
    }

    private static void eachByteBehindAnItem() {
        for (int c = 0; c <= 255; c++) {
            boolean begins = c == 't' || c == 'h' || c == 'u';
            int due = c == ' ' ? 1 : begins ? -10 - 4 : -10 - 3;
            Check.due("r1; and byte " + c, Check.read("r1;" + (char) c), due);
        }
    }

    private static void lettersSideBySide() {
        for (String two : new String[] {"tt", "th", "hh", "rr", "ru", "uu", "ta", "zt", "treetree"}) {
            Check.fault(two + "1 1 1 1;", 0);
            Check.fault("  " + two, 2);
            Check.fault("r1;" + two + "1;", 3);
        }
        Check.fault("t t1 1 1 1;", 2);
        Check.fault("t1 1h 1 1;", 4);
        Check.fault("t1 1 1 1t;", 8);
        Check.fault("r1u1;", 2);
        for (String letters : new String[] {"t", "tt", "u", "zz", "one"}) {
            Check.fault("t " + letters + " 1 1 1;", 2);
            Check.fault("t1 " + letters + " 1 1;", 3);
            Check.fault("t1 1 1 " + letters + ";", 7);
            Check.fault("h " + letters + " 1 1;", 2);
            Check.fault("r " + letters + ";", 2);
            Check.fault("u1 " + letters + ";", 3);
        }
        Check.fault("T1 1 1 1;", 0);
        Check.fault("tT1 1 1 1;", 1);
    }

    private static void tooManyNumbers() {
        Check.fault("t1 1 1 1 1;", 9);
        Check.fault("h1 1 1 1;", 7);
        Check.fault("r1 1;", 3);
        Check.fault("u1 1;", 3);
        Check.fault("r1; 1;", 4);
        Check.fault("r1;;", 3);
        Check.fault("1", 0);
        Check.fault("100", 0);
        Check.fault(" 01", 1);
    }

    private static void tooFewNumbers() {
        Check.fault("t;", 1);
        Check.fault("t1;", 2);
        Check.fault("t1 1;", 4);
        Check.fault("t1 1 1;", 6);
        Check.fault("h;", 1);
        Check.fault("h1;", 2);
        Check.fault("h1 1 ;", 5);
        Check.fault("r;", 1);
        Check.fault("u ;", 2);
        Check.fault("r u1;", 2);
    }

    private static void firstOfSeveralFaults() {
        Check.fault("t1 2;$", 4);
        Check.fault("x$", 0);
        Check.fault("r10 100", 1);
        Check.fault("r1;r100", 3);
        Check.fault("h1 1 0;h1 1 61;h", 5);
        Check.fault("u$1", 1);
        Check.fault("u01$", 1);
        Check.fault("t1 2 61", 5);
        Check.fault("t1 2 61  ", 5);
    }

    // ---- what changes

    private static TallerTrees withText(String text) {
        TallerTrees x = Check.told("t1 1 20 1;t5 5 9 2;h2 2 15;h5 6 60;r4;u3;");
        x.year();
        x.keep(0);
        x.storm(1);
        x.saw(1);
        x.mark(3, 0);
        x.keep(1);
        x.storm(6);
        Check.types(x, text);
        return x;
    }

    private static void faultChangesNothing() {
        String[] faulty = {"t", "t9 9 9 9;", "t9 9 9 1;t", "h9 9 9;;", "r1;u1;r1;", SEVEN_TREES + "t1 1 1 1;",
            SIX_HOUSES + "h1 1 1;", "x", "r100;", "h0 0 1;u01;", "t3 3 3 3;$"};
        int[] place = {1, 7, 10, 7, 6, 63, 42, 0, 1, 8, 9};
        for (int i = 0; i < faulty.length; i++) {
            String text = faulty[i];
            Check.changesNothing("field of " + text, () -> withText(text), -10 - place[i], x -> x.field());
            TallerTrees x = withText(text);
            x.field();
            Check.due("seen stays", x.saw(0), 1);
            Check.due("the text stays", x.clear(), text.length());
            Check.due("image 1 stays", x.back(1), 1);
        }
    }

    private static void readAnew() {
        for (String text : new String[] {"", "   ", "u2;t1 1 20 1;t5 5 9 2;h2 2 15;h5 6 60;"}) {
            TallerTrees x = withText(text);
            x.field();
            Check.due("the text is empty", x.count(5), 0);
            Check.due("year 0", x.now(0), 0);
            Check.due("nothing used up", x.now(2), 0);
            Check.due("nothing struck", x.now(4), 0);
            Check.due("nothing to be undone", x.undo(), STATE);
            Check.due("image 0 is gone", x.back(0), STATE);
            Check.due("image 1 is gone", x.back(1), STATE);
            Check.due("whose of nothing seen", x.whose(0), 0);
            Check.due("seen is nothing", x.saw(0), NONE);
            Check.due("the trace stays", x.trace(), 1011);
            Check.due("reach as at first", x.count(2), 3);
            Check.due("used as told or at first", x.count(3), text.isBlank() ? 9 : 2);
            Check.due("trees as told", x.count(0), text.isBlank() ? 0 : 2);
            Check.due("houses as told", x.count(1), text.isBlank() ? 0 : 2);
            Check.due("high as told", x.tree(0, 2), text.isBlank() ? BAD : 20);
        }
    }
}
