/**
 * Houses insured against lightning by taller trees. The words in capitals are those of the document.
 * Every row is made with the object and used again: no call makes an object.
 */
public final class TallerTrees {
    public static final int BAD = -1, STATE = -2, FULL = -3, NONE = -9;
    public static final int NO = -1000000;

    private static final int SIDE = 10, TREES = 7, HOUSES = 6, BYTES = 150, UNDOS = 10, IMAGES = 2;
    private static final int HIGHEST = 99, LAST_YEAR = 200, TOP_MOST = 60, HOUSE_STRUCK = 100;

    private final Reader reader;
    private final Plan plan;
    private final Scene scene;
    private final Cover cover;
    private final Storms storms;
    private final Scene[] images;
    private final boolean[] kept;
    private int seen;
    private long asked;

    public TallerTrees() {
        int[] row = new int[1 << TREES];
        reader = new Reader();
        plan = new Plan();
        scene = new Scene();
        cover = new Cover(plan, scene, row);
        storms = new Storms(plan, scene, row);
        images = new Scene[IMAGES];
        for (int i = 0; i < IMAGES; i++) {
            images[i] = new Scene();
        }
        kept = new boolean[IMAGES];
        seen = NONE;
        asked = 0;
    }

    // ---- the field

    public int type(int c) {
        if (!isWithin(c, 0, 255)) {
            return BAD;
        }
        return reader.append(c) ? reader.length : FULL;
    }

    public int clear() {
        int had = reader.length;
        reader.length = 0;
        return had;
    }

    public int field() {
        int items = reader.read();
        if (items < 0) {
            return items;
        }
        plan.become(reader.plan);
        scene.begin(reader.cells);
        for (int i = 0; i < IMAGES; i++) {
            kept[i] = false;
        }
        seen = NONE;
        reader.length = 0;
        return items;
    }

    public int tree(int t, int what) {
        if (!isTree(t)) {
            return BAD;
        }
        switch (what) {
            case 0: return scene.x(t);
            case 1: return scene.y(t);
            case 2: return scene.high(t);
            case 3: return scene.grows(t);
            case 4: return scene.used(t);
            case 5: return cover.under(t, 0);
            default: return BAD;
        }
    }

    public int house(int h, int what) {
        if (!isHouse(h)) {
            return BAD;
        }
        switch (what) {
            case 0: return plan.x[h];
            case 1: return plan.y[h];
            case 2: return plan.high[h];
            case 3: return scene.struck(h);
            case 4: return cover.over(h);
            case 5: return cover.premium(h);
            default: return BAD;
        }
    }

    // ---- what is done

    public int year() {
        if (scene.cells[Scene.YEAR] >= LAST_YEAR) {
            return STATE;
        }
        scene.remember();
        scene.pass();
        return cover.covered(0);
    }

    public int storm(int y) {
        if (!isWithin(y, 0, SIDE - 1)) {
            return BAD;
        }
        scene.remember();
        int struck = storms.strikes(y, scene.usedUp());
        if (struck >= HOUSE_STRUCK) {
            scene.cells[Scene.STRUCK + struck - HOUSE_STRUCK]++;
        } else if (struck >= 0) {
            scene.cells[Scene.USED + struck] = plan.used;
        }
        return struck;
    }

    public int tops(int t, int n) {
        if (!isTree(t) || !isWithin(n, 1, TOP_MOST)) {
            return BAD;
        }
        scene.remember();
        scene.cells[Scene.HIGH + t] = toppedHigh(scene.high(t), n);
        return scene.high(t);
    }

    public int plants(int x, int y) {
        if (!isWithin(x, 0, SIDE - 1) || !isWithin(y, 0, SIDE - 1)) {
            return BAD;
        }
        int t = scene.trees();
        if (t >= TREES) {
            return FULL;
        }
        scene.remember();
        Scene.put(scene.cells, x, y, Scene.PLANTED_HIGH, Scene.PLANTED_GROWS);
        return t;
    }

    public int undo() {
        if (scene.known == 0) {
            return STATE;
        }
        scene.recall();
        return scene.known;
    }

    public int now(int what) {
        switch (what) {
            case 0: return scene.cells[Scene.YEAR];
            case 1: return cover.covered(0);
            case 2: return scene.usedUp();
            case 3: return cover.premiums();
            case 4: return struckInAll();
            case 5: return cover.enough();
            default: return BAD;
        }
    }

    // ---- cover

    public int only(int h) {
        return isHouse(h) ? cover.lone(h) : BAD;
    }

    public int when(int h) {
        return isHouse(h) ? cover.firstYear(h) : BAD;
    }

    public int where(int n, int what) {
        if (!isWithin(n, 0, 40) || !isWithin(what, 0, 2)) {
            return BAD;
        }
        return cover.planting(n, what);
    }

    public int sold(int t) {
        if (t == -1) {
            return cover.mostPaid();
        }
        return isTree(t) ? cover.payers(t) : BAD;
    }

    public int ribbons() {
        return plan.houses == 0 ? NONE : cover.leastRibbons();
    }

    // ---- storms, wars

    public int tracks(int what, int i) {
        if (what == 0 && isTree(i)) {
            return storms.tracksOf(i);
        }
        if (what == 1 && isHouse(i)) {
            return storms.tracksOf(HOUSE_STRUCK + i);
        }
        return BAD;
    }

    public int odds(int h, int n, int what) {
        if (!isHouse(h) || !isWithin(n, 0, 3) || !isWithin(what, 0, 1)) {
            return BAD;
        }
        return storms.chance(h, n, what);
    }

    public int war(int t, int h, int n) {
        if (!isTree(t) || !isHouse(h) || !isWithin(n, 0, 99)) {
            return BAD;
        }
        int mast = scene.high(t);
        int steeple = plan.high[h];
        int coins = n;
        for (int year = 0; year <= 99; year++) {
            if (steeple <= mast) {
                coins -= mast + 1 - steeple;
                steeple = mast + 1;
            }
            if (coins < 0) {
                return year;
            }
            mast = Math.min(HIGHEST, mast + scene.grows(t));
        }
        return NONE;
    }

    // ---- what was seen

    public int saw(int houses) {
        if (!isWithin(houses, 0, plan.all())) {
            return BAD;
        }
        int before = seen;
        seen = houses;
        return before;
    }

    public int whose(int what) {
        return isWithin(what, 0, 2) ? cover.toppings(seen, what) : BAD;
    }

    // ---- kinds, images

    public int mark(int kind, int t) {
        if (!isTree(t)) {
            return NO;
        }
        switch (kind) {
            case 0: return asTree(t);
            case 1: return asOak(t);
            case 2: return asPoplar(t);
            case 3: return asAsh(t);
            case 4: return asSapling(t);
            case 5: return asElm(t);
            default: return NO;
        }
    }

    public int keep(int image) {
        if (!isWithin(image, 0, IMAGES - 1)) {
            return BAD;
        }
        images[image].become(scene);
        kept[image] = true;
        return scene.cells[Scene.YEAR];
    }

    public int back(int image) {
        if (!isWithin(image, 0, IMAGES - 1)) {
            return BAD;
        }
        if (!kept[image]) {
            return STATE;
        }
        scene.become(images[image]);
        return scene.cells[Scene.YEAR];
    }

    public int count(int what) {
        switch (what) {
            case 0: return scene.trees();
            case 1: return plan.houses;
            case 2: return plan.reach;
            case 3: return plan.used;
            case 4: return scene.known;
            case 5: return reader.length;
            default: return BAD;
        }
    }

    public long trace() {
        return asked;
    }

    // ---- what several calls use

    private static boolean isWithin(int number, int least, int most) {
        return number >= least && number <= most;
    }

    private static int toppedHigh(int high, int n) {
        return Math.max(1, high - n);
    }

    private boolean isTree(int t) {
        return t >= 0 && t < scene.trees();
    }

    private boolean isHouse(int h) {
        return h >= 0 && h < plan.houses;
    }

    private int struckInAll() {
        int sum = 0;
        for (int h = 0; h < plan.houses; h++) {
            sum += scene.struck(h);
        }
        return sum;
    }

    // Each body tells THE TRACE that it was asked, then asks the one above it once.

    private int asTree(int t) {
        asked += 1;
        return scene.high(t);
    }

    private int asOak(int t) {
        asked += 10;
        return asTree(t) + Integer.bitCount(cover.under(t, 0));
    }

    private int asPoplar(int t) {
        asked += 100;
        return asTree(t) - scene.x(t);
    }

    private int asAsh(int t) {
        asked += 1000;
        return asOak(t) * 2;
    }

    private int asSapling(int t) {
        asked += 10000;
        return asPoplar(t) + scene.grows(t);
    }

    private int asElm(int t) {
        asked += 100000;
        return asTree(t) + scene.cells[Scene.YEAR];
    }

    /** What is told once and stays until the next text: HOUSES, REACH, USED. */
    private static final class Plan {
        final int[] x = new int[HOUSES];
        final int[] y = new int[HOUSES];
        final int[] high = new int[HOUSES];
        int houses;
        int reach;
        int used;

        Plan() {
            empty();
        }

        void empty() {
            houses = 0;
            reach = 3;
            used = 9;
        }

        void add(int atX, int atY, int itsHigh) {
            if (houses >= HOUSES) {
                return;
            }
            x[houses] = atX;
            y[houses] = atY;
            high[houses] = itsHigh;
            houses++;
        }

        void become(Plan other) {
            System.arraycopy(other.x, 0, x, 0, HOUSES);
            System.arraycopy(other.y, 0, y, 0, HOUSES);
            System.arraycopy(other.high, 0, high, 0, HOUSES);
            houses = other.houses;
            reach = other.reach;
            used = other.used;
        }

        int all() {
            return (1 << houses) - 1;
        }

        boolean reaches(int treeX, int treeY, int h) {
            int overX = treeX - x[h];
            int overY = treeY - y[h];
            return overX * overX + overY * overY <= reach * reach;
        }

        /** The HOUSES (bits) in REACH of that place that are less than that high. */
        int below(int treeX, int treeY, int treeHigh) {
            int bits = 0;
            for (int h = 0; h < houses; h++) {
                if (treeHigh > high[h] && reaches(treeX, treeY, h)) {
                    bits |= 1 << h;
                }
            }
            return bits;
        }
    }

    /**
     * NOW: TREES, the YEAR, who was STRUCK, in one row, so that what may be UNDONE is a row, too.
     * The rows of the past are a ring.
     */
    private static final class Scene {
        static final int YEAR = 0, COUNT = 1, X = 2, Y = X + TREES, HIGH = Y + TREES, GROWS = HIGH + TREES;
        static final int USED = GROWS + TREES, STRUCK = USED + TREES, CELLS = STRUCK + HOUSES;
        static final int PLANTED_HIGH = 1, PLANTED_GROWS = 2;

        final int[] cells = new int[CELLS];
        final int[] past = new int[UNDOS * CELLS];
        int known;
        int next;

        int x(int t) {
            return cells[X + t];
        }

        int y(int t) {
            return cells[Y + t];
        }

        int high(int t) {
            return cells[HIGH + t];
        }

        int grows(int t) {
            return cells[GROWS + t];
        }

        int used(int t) {
            return cells[USED + t];
        }

        int struck(int h) {
            return cells[STRUCK + h];
        }

        int trees() {
            return cells[COUNT];
        }

        static void put(int[] cells, int x, int y, int high, int grows) {
            int t = cells[COUNT];
            if (t < 0 || t >= TREES) {
                return;
            }
            cells[X + t] = x;
            cells[Y + t] = y;
            cells[HIGH + t] = high;
            cells[GROWS + t] = grows;
            cells[USED + t] = 0;
            cells[COUNT] = t + 1;
        }

        int usedUp() {
            int bits = 0;
            for (int t = 0; t < trees(); t++) {
                if (used(t) > 0) {
                    bits |= 1 << t;
                }
            }
            return bits;
        }

        /** How high a TREE is behind so many YEARS; 0, which COVERS nothing, if it is USED UP then. */
        int standing(int t, int years) {
            int growing = years - used(t);
            return growing < 0 ? 0 : Math.min(HIGHEST, high(t) + growing * grows(t));
        }

        void pass() {
            for (int t = 0; t < trees(); t++) {
                if (used(t) > 0) {
                    cells[USED + t]--;
                } else {
                    cells[HIGH + t] = Math.min(HIGHEST, high(t) + grows(t));
                }
            }
            cells[YEAR]++;
        }

        void begin(int[] told) {
            System.arraycopy(told, 0, cells, 0, CELLS);
            known = 0;
            next = 0;
        }

        void remember() {
            System.arraycopy(cells, 0, past, next * CELLS, CELLS);
            next = (next + 1) % UNDOS;
            known = Math.min(UNDOS, known + 1);
        }

        void recall() {
            next = (next + UNDOS - 1) % UNDOS;
            known--;
            System.arraycopy(past, next * CELLS, cells, 0, CELLS);
        }

        void become(Scene other) {
            System.arraycopy(other.cells, 0, cells, 0, CELLS);
            System.arraycopy(other.past, 0, past, 0, UNDOS * CELLS);
            known = other.known;
            next = other.next;
        }
    }

    /** THE TEXT, and what it tells; that is only taken over if all of it can stand. */
    private static final class Reader {
        private static final int END = 0, LETTERS = 1, NUMBER = 2, STOP = 3, WRONG = 4;
        // What the NUMBERS X, Y, H, G may be, and last the one of r, u.
        private static final int[] LEAST = {0, 0, 1, 0, 1};
        private static final int[] MOST = {9, 9, 60, 5, 9};
        private static final int OF_ONE = 4;

        final int[] bytes = new int[BYTES];
        int length;
        final Plan plan = new Plan();
        final int[] cells = new int[Scene.CELLS];
        private final int[] numbers = new int[4];
        private boolean reachTold;
        private boolean usedTold;
        private int place;
        private int tokenAt;
        private int kind;
        private int value;

        boolean append(int c) {
            if (length >= BYTES) {
                return false;
            }
            bytes[length] = c;
            length++;
            return true;
        }

        /** How many ITEMS; -10 less FAULT. */
        int read() {
            begin();
            for (int items = 0; items < BYTES; items++) {
                toToken();
                if (kind == END) {
                    return items;
                }
                if (!readItem()) {
                    return -10 - tokenAt;
                }
            }
            return -10 - length;
        }

        private void begin() {
            plan.empty();
            for (int i = 0; i < Scene.CELLS; i++) {
                cells[i] = 0;
            }
            reachTold = false;
            usedTold = false;
            place = 0;
        }

        private boolean readItem() {
            if (kind != LETTERS) {
                return false;
            }
            boolean isTold;
            switch (value) {
                case 't': isTold = readTree(); break;
                case 'h': isTold = readHouse(); break;
                case 'r': isTold = readReach(); break;
                case 'u': isTold = readUsed(); break;
                default: isTold = false;
            }
            if (!isTold) {
                return false;
            }
            toToken();
            return kind == STOP;
        }

        private boolean readTree() {
            if (cells[Scene.COUNT] >= TREES || !readNumbers(0, 4)) {
                return false;
            }
            Scene.put(cells, numbers[0], numbers[1], numbers[2], numbers[3]);
            return true;
        }

        private boolean readHouse() {
            if (plan.houses >= HOUSES || !readNumbers(0, 3)) {
                return false;
            }
            plan.add(numbers[0], numbers[1], numbers[2]);
            return true;
        }

        private boolean readReach() {
            if (reachTold || !readNumbers(OF_ONE, 1)) {
                return false;
            }
            reachTold = true;
            plan.reach = numbers[0];
            return true;
        }

        private boolean readUsed() {
            if (usedTold || !readNumbers(OF_ONE, 1)) {
                return false;
            }
            usedTold = true;
            plan.used = numbers[0];
            return true;
        }

        private boolean readNumbers(int bound, int many) {
            for (int i = 0; i < many; i++) {
                toToken();
                if (kind != NUMBER || !isWithin(value, LEAST[bound + i], MOST[bound + i])) {
                    return false;
                }
                numbers[i] = value;
            }
            return true;
        }

        /** Goes to the next TOKEN; at the end that begins where THE TEXT ends. */
        private void toToken() {
            while (place < length && bytes[place] == ' ') {
                place++;
            }
            tokenAt = place;
            value = 0;
            if (place >= length) {
                kind = END;
            } else if (isWithin(bytes[place], 'a', 'z')) {
                kind = LETTERS;
                toEndOf('a', 'z');
                value = place - tokenAt == 1 ? bytes[tokenAt] : 0;
            } else if (isWithin(bytes[place], '0', '9')) {
                toEndOf('0', '9');
                takeNumber(place - tokenAt);
            } else {
                kind = bytes[place] == ';' ? STOP : WRONG;
                place++;
            }
        }

        private void toEndOf(int least, int most) {
            while (place < length && bytes[place] >= least && bytes[place] <= most) {
                place++;
            }
        }

        private void takeNumber(int digits) {
            if (digits > 2 || digits == 2 && bytes[tokenAt] == '0') {
                kind = WRONG;
                return;
            }
            kind = NUMBER;
            for (int i = tokenAt; i < place; i++) {
                value = value * 10 + bytes[i] - '0';
            }
        }
    }

    /** Who COVERS whom, and what follows from it. The row is rough paper, written anew by each call. */
    private static final class Cover {
        private static final int LAST_WHEN = 60, TOPPED_MOST = 40, PLACES = SIDE * SIDE, FAR = 1000000;

        private final Plan plan;
        private final Scene scene;
        private final int[] row;

        Cover(Plan plan, Scene scene, int[] row) {
            this.plan = plan;
            this.scene = scene;
            this.row = row;
        }

        /** The HOUSES (bits) that a TREE COVERS behind so many YEARS. */
        int under(int t, int years) {
            return plan.below(scene.x(t), scene.y(t), scene.standing(t, years));
        }

        int covered(int years) {
            return coveredBut(-1, years);
        }

        private int coveredBut(int but, int years) {
            int bits = 0;
            for (int t = 0; t < scene.trees(); t++) {
                if (t != but) {
                    bits |= under(t, years);
                }
            }
            return bits;
        }

        private boolean covers(int t, int h) {
            return scene.standing(t, 0) > plan.high[h] && plan.reaches(scene.x(t), scene.y(t), h);
        }

        /** The TREES (bits) that COVER a HOUSE. */
        int over(int h) {
            int bits = 0;
            for (int t = 0; t < scene.trees(); t++) {
                if (covers(t, h)) {
                    bits |= 1 << t;
                }
            }
            return bits;
        }

        int premium(int h) {
            return Math.max(1, plan.high[h] + 30 - 10 * Integer.bitCount(over(h)));
        }

        int premiums() {
            int sum = 0;
            for (int h = 0; h < plan.houses; h++) {
                sum += premium(h);
            }
            return sum;
        }

        int enough() {
            int trees = scene.trees();
            for (int t = 0; t < trees; t++) {
                row[t] = under(t, 0);
            }
            int target = covered(0);
            int best = (1 << trees) - 1;
            for (int set = best - 1; set >= 0; set--) {
                // Downward, so that of as few the least comes last.
                if (Integer.bitCount(set) <= Integer.bitCount(best) && unionOf(set, trees) == target) {
                    best = set;
                }
            }
            return best;
        }

        private int unionOf(int set, int trees) {
            int bits = 0;
            for (int t = 0; t < trees; t++) {
                if ((set >> t & 1) != 0) {
                    bits |= row[t];
                }
            }
            return bits;
        }

        int lone(int h) {
            int bits = over(h);
            for (int t = 0; t < scene.trees(); t++) {
                if (bits == 1 << t) {
                    return t;
                }
            }
            return NONE;
        }

        int firstYear(int h) {
            for (int years = 0; years <= LAST_WHEN; years++) {
                if ((covered(years) >> h & 1) != 0) {
                    return years;
                }
            }
            return NONE;
        }

        /** WHERE: how many (what = 0), the first (1), the second (2). */
        int planting(int years, int what) {
            int bare = plan.all() & ~covered(years);
            if (bare == 0) {
                return what == 0 ? 0 : NONE;
            }
            lookFromPlaces(years);
            int one = placeThatCovers(bare, 0);
            if (one >= 0) {
                return what == 0 ? 1 : what == 1 ? one : NONE;
            }
            for (int first = 0; first < PLACES; first++) {
                int second = placeThatCovers(bare & ~row[first], first);
                if (second >= 0) {
                    return what == 0 ? 2 : what == 1 ? first : second;
                }
            }
            return NONE;
        }

        /** Writes down for each place whom a TREE that is PLANTED there now COVERS behind the YEARS. */
        private void lookFromPlaces(int years) {
            int high = Math.min(HIGHEST, Scene.PLANTED_HIGH + years * Scene.PLANTED_GROWS);
            for (int place = 0; place < PLACES; place++) {
                row[place] = plan.below(place / SIDE, place % SIDE, high);
            }
        }

        private int placeThatCovers(int bare, int from) {
            for (int place = from; place < PLACES; place++) {
                if ((bare & ~row[place]) == 0) {
                    return place;
                }
            }
            return NONE;
        }

        /** The TREE that a HOUSE pays; NONE. */
        private int paidBy(int h) {
            int best = NONE;
            for (int t = 0; t < scene.trees(); t++) {
                if (covers(t, h) && (best < 0 || scene.high(t) > scene.high(best))) {
                    best = t;
                }
            }
            return best;
        }

        int payers(int t) {
            int sum = 0;
            for (int h = 0; h < plan.houses; h++) {
                if (paidBy(h) == t) {
                    sum++;
                }
            }
            return sum;
        }

        int mostPaid() {
            int best = NONE;
            int most = 0;
            for (int t = 0; t < scene.trees(); t++) {
                int pay = payers(t);
                if (pay > most) {
                    most = pay;
                    best = t;
                }
            }
            return best;
        }

        /**
         * The row has the least sum for each set of HOUSES. A TREE need only be as high as it is or just
         * above a HOUSE in its REACH; if a sum counts one TREE twice, the higher of the two is in a lesser sum.
         */
        int leastRibbons() {
            int all = plan.all();
            row[0] = 0;
            for (int set = 1; set <= all; set++) {
                row[set] = FAR;
            }
            for (int t = 0; t < scene.trees(); t++) {
                for (int h = 0; h < plan.houses; h++) {
                    if (scene.used(t) == 0 && plan.reaches(scene.x(t), scene.y(t), h)) {
                        raise(t, Math.max(scene.high(t), plan.high[h] + 1), all);
                    }
                }
            }
            return row[all] < FAR ? row[all] : -5;
        }

        private void raise(int t, int high, int all) {
            int more = plan.below(scene.x(t), scene.y(t), high);
            int ribbon = high - scene.high(t);
            for (int set = 0; set <= all; set++) {
                row[set | more] = Math.min(row[set | more], row[set] + ribbon);
            }
        }

        /** WHOSE: how many (what = 0), the first (1), TREES (2). */
        int toppings(int seen, int what) {
            int many = 0;
            int first = NONE;
            int bits = 0;
            for (int t = 0; t < scene.trees(); t++) {
                int others = coveredBut(t, 0);
                for (int n = 1; n <= TOPPED_MOST; n++) {
                    if ((others | underTopped(t, n)) == seen) {
                        first = many == 0 ? 100 * t + n : first;
                        many++;
                        bits |= 1 << t;
                    }
                }
            }
            return what == 0 ? many : what == 1 ? first : bits;
        }

        private int underTopped(int t, int n) {
            return scene.used(t) > 0 ? 0 : plan.below(scene.x(t), scene.y(t), toppedHigh(scene.high(t), n));
        }
    }

    /** What STORMS strike. The row is rough paper, written anew by each call. */
    private static final class Storms {
        private static final int WIDE = 2;

        private final Plan plan;
        private final Scene scene;
        private final int[] row;

        Storms(Plan plan, Scene scene, int[] row) {
            this.plan = plan;
            this.scene = scene;
            this.row = row;
        }

        /** What a STORM along y strikes: a TREE's number; a HOUSE's and 100; NONE. */
        int strikes(int y, int usedUp) {
            int struck = NONE;
            int high = 0;
            int x = 0;
            // TREES first, each by its number: what is alike comes too late.
            for (int t = 0; t < scene.trees(); t++) {
                if ((usedUp >> t & 1) == 0 && Math.abs(scene.y(t) - y) <= WIDE
                        && isAhead(scene.high(t), scene.x(t), high, x)) {
                    struck = t;
                    high = scene.high(t);
                    x = scene.x(t);
                }
            }
            for (int h = 0; h < plan.houses; h++) {
                if (Math.abs(plan.y[h] - y) <= WIDE && isAhead(plan.high[h], plan.x[h], high, x)) {
                    struck = HOUSE_STRUCK + h;
                    high = plan.high[h];
                    x = plan.x[h];
                }
            }
            return struck;
        }

        private static boolean isAhead(int high, int x, int bestHigh, int bestX) {
            return high > bestHigh || high == bestHigh && x < bestX;
        }

        int tracksOf(int target) {
            int usedUp = scene.usedUp();
            int bits = 0;
            for (int y = 0; y < SIDE; y++) {
                if (strikes(y, usedUp) == target) {
                    bits |= 1 << y;
                }
            }
            return bits;
        }

        /** ODDS: the upper (what = 0), the lower number (1). */
        int chance(int h, int n, int what) {
            int lower = 1;
            for (int i = 0; i < n; i++) {
                lower *= SIDE;
            }
            int upper = lower - missing(h, n);
            // The lower number has no other primes than 2 and 5, each n times.
            for (int i = 0; i < n; i++) {
                if (upper % 2 == 0) {
                    upper /= 2;
                    lower /= 2;
                }
                if (upper % 5 == 0) {
                    upper /= 5;
                    lower /= 5;
                }
            }
            return what == 0 ? upper : lower;
        }

        /** In how many ways n STORMS do not strike a HOUSE: the row has, by TREES that are USED UP, in how many. */
        private int missing(int h, int n) {
            int sets = 1 << scene.trees();
            for (int set = 0; set < sets; set++) {
                row[set] = 0;
            }
            row[scene.usedUp()] = 1;
            for (int i = 0; i < n; i++) {
                // Downward, for a STORM only adds to a set.
                for (int set = sets - 1; set >= 0; set--) {
                    if (row[set] > 0) {
                        spread(h, set);
                    }
                }
            }
            int sum = 0;
            for (int set = 0; set < sets; set++) {
                sum += row[set];
            }
            return sum;
        }

        private void spread(int h, int set) {
            int ways = row[set];
            row[set] = 0;
            for (int y = 0; y < SIDE; y++) {
                int struck = strikes(y, set);
                if (struck >= 0 && struck < HOUSE_STRUCK) {
                    row[set | 1 << struck] += ways;
                } else if (struck != HOUSE_STRUCK + h) {
                    row[set] += ways;
                }
            }
        }
    }
}
