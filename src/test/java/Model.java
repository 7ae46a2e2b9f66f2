import java.util.ArrayDeque;
import java.util.ArrayList;
import java.util.Deque;
import java.util.List;
import java.util.regex.Matcher;
import java.util.regex.Pattern;

/**
 * The document a second time, word by word and without regard to speed: years pass one by one, sets are
 * tried one by one. ModelTest compares it with the class.
 */
final class Model {
    static final int BAD = -1, STATE = -2, FULL = -3, NONE = -9, NO = -1000000;

    static final class Tree {
        int x;
        int y;
        int high;
        int grows;
        int used;

        Tree(int x, int y, int high, int grows, int used) {
            this.x = x;
            this.y = y;
            this.high = high;
            this.grows = grows;
            this.used = used;
        }

        Tree copy() {
            return new Tree(x, y, high, grows, used);
        }
    }

    static final class House {
        final int x;
        final int y;
        final int high;

        House(int x, int y, int high) {
            this.x = x;
            this.y = y;
            this.high = high;
        }
    }

    /** TREES, the YEAR, who was STRUCK. */
    static final class State {
        final List<Tree> trees = new ArrayList<>();
        final int[] struck = new int[6];
        int year;

        State copy() {
            State other = new State();
            for (Tree t : trees) {
                other.trees.add(t.copy());
            }
            System.arraycopy(struck, 0, other.struck, 0, 6);
            other.year = year;
            return other;
        }
    }

    private StringBuilder text = new StringBuilder();
    private List<House> houses = new ArrayList<>();
    private int reach = 3;
    private int usedYears = 9;
    private State state = new State();
    private Deque<State> past = new ArrayDeque<>();
    private final State[] images = new State[2];
    private final List<Deque<State>> imagePasts = new ArrayList<>(List.of(new ArrayDeque<>(), new ArrayDeque<>()));
    private Integer seen = null;
    private long trace = 0;

    int type(int c) {
        if (c < 0 || c > 255) return BAD;
        if (text.length() == 150) return FULL;
        text.append((char) c);
        return text.length();
    }

    int clear() {
        int had = text.length();
        text = new StringBuilder();
        return had;
    }

    // ---- the text: first cut into tokens, then read by a table

    private record Token(int at, String what) {
    }

    private static List<Token> tokens(String text) {
        List<Token> all = new ArrayList<>();
        Matcher m = Pattern.compile("[a-z]+|[0-9]+|[^ ]", Pattern.DOTALL).matcher(text);
        while (m.find()) {
            all.add(new Token(m.start(), m.group()));
        }
        return all;
    }

    private static boolean isNumber(String what, int least, int most) {
        for (int n = least; n <= most; n++) {
            if (what.equals(Integer.toString(n))) return true;
        }
        return false;
    }

    int field() {
        List<Token> all = tokens(text.toString());
        List<Tree> newTrees = new ArrayList<>();
        List<House> newHouses = new ArrayList<>();
        int newReach = 0;
        int newUsed = 0;
        int items = 0;
        int i = 0;
        while (i < all.size()) {
            Token head = all.get(i);
            int[][] bounds;
            if (head.what.equals("t") && newTrees.size() < 7) {
                bounds = new int[][] {{0, 9}, {0, 9}, {1, 60}, {0, 5}};
            } else if (head.what.equals("h") && newHouses.size() < 6) {
                bounds = new int[][] {{0, 9}, {0, 9}, {1, 60}};
            } else if (head.what.equals("r") && newReach == 0 || head.what.equals("u") && newUsed == 0) {
                bounds = new int[][] {{1, 9}};
            } else {
                return -10 - head.at;
            }
            i++;
            int[] n = new int[4];
            for (int k = 0; k < bounds.length; k++, i++) {
                if (i == all.size()) return -10 - text.length();
                if (!isNumber(all.get(i).what, bounds[k][0], bounds[k][1])) return -10 - all.get(i).at;
                n[k] = Integer.parseInt(all.get(i).what);
            }
            if (i == all.size()) return -10 - text.length();
            if (!all.get(i).what.equals(";")) return -10 - all.get(i).at;
            i++;
            items++;
            switch (head.what) {
                case "t" -> newTrees.add(new Tree(n[0], n[1], n[2], n[3], 0));
                case "h" -> newHouses.add(new House(n[0], n[1], n[2]));
                case "r" -> newReach = n[0];
                default -> newUsed = n[0];
            }
        }
        houses = newHouses;
        reach = newReach == 0 ? 3 : newReach;
        usedYears = newUsed == 0 ? 9 : newUsed;
        state = new State();
        state.trees.addAll(newTrees);
        past = new ArrayDeque<>();
        images[0] = null;
        images[1] = null;
        seen = null;
        text = new StringBuilder();
        return items;
    }

    // ---- who covers whom

    private boolean inReach(Tree t, House h) {
        return (t.x - h.x) * (t.x - h.x) + (t.y - h.y) * (t.y - h.y) <= reach * reach;
    }

    private boolean covers(Tree t, House h) {
        return t.high > h.high && t.used == 0 && inReach(t, h);
    }

    private int covered(List<Tree> trees) {
        int bits = 0;
        for (int h = 0; h < houses.size(); h++) {
            for (Tree t : trees) {
                if (covers(t, houses.get(h))) bits |= 1 << h;
            }
        }
        return bits;
    }

    private static void pass(State s) {
        for (Tree t : s.trees) {
            if (t.used == 0) {
                t.high += t.grows;
                if (t.high > 99) t.high = 99;
            } else {
                t.used--;
            }
        }
        s.year++;
    }

    private int strike(State s, int y) {
        int best = NONE;
        int high = 0;
        int x = 0;
        for (int code = 0; code < 106; code++) {
            int ch;
            int cx;
            int cy;
            if (code < s.trees.size()) {
                Tree t = s.trees.get(code);
                if (t.used > 0) continue;
                ch = t.high;
                cx = t.x;
                cy = t.y;
            } else if (code >= 100 && code - 100 < houses.size()) {
                House h = houses.get(code - 100);
                ch = h.high;
                cx = h.x;
                cy = h.y;
            } else {
                continue;
            }
            if (cy < y - 2 || cy > y + 2) continue;
            if (best == NONE || ch > high || ch == high && cx < x) {
                best = code;
                high = ch;
                x = cx;
            }
        }
        if (best >= 100) s.struck[best - 100]++;
        else if (best >= 0) s.trees.get(best).used = usedYears;
        return best;
    }

    private boolean noTree(int t) {
        return t < 0 || t >= state.trees.size();
    }

    private boolean noHouse(int h) {
        return h < 0 || h >= houses.size();
    }

    int tree(int t, int what) {
        if (noTree(t) || what < 0 || what > 5) return BAD;
        Tree tree = state.trees.get(t);
        return new int[] {tree.x, tree.y, tree.high, tree.grows, tree.used, covered(List.of(tree))}[what];
    }

    private int over(int h) {
        int bits = 0;
        for (int t = 0; t < state.trees.size(); t++) {
            if (covers(state.trees.get(t), houses.get(h))) bits += 1 << t;
        }
        return bits;
    }

    private int premium(int h) {
        int sum = houses.get(h).high + 30;
        for (Tree t : state.trees) {
            if (covers(t, houses.get(h))) sum -= 10;
        }
        return sum < 1 ? 1 : sum;
    }

    int house(int h, int what) {
        if (noHouse(h) || what < 0 || what > 5) return BAD;
        House house = houses.get(h);
        return new int[] {house.x, house.y, house.high, state.struck[h], over(h), premium(h)}[what];
    }

    // ---- what is done

    private void remember() {
        past.addLast(state.copy());
        if (past.size() > 10) past.removeFirst();
    }

    int year() {
        if (state.year == 200) return STATE;
        remember();
        pass(state);
        return covered(state.trees);
    }

    int storm(int y) {
        if (y < 0 || y > 9) return BAD;
        remember();
        return strike(state, y);
    }

    int tops(int t, int n) {
        if (noTree(t) || n < 1 || n > 60) return BAD;
        remember();
        Tree tree = state.trees.get(t);
        tree.high -= n;
        if (tree.high < 1) tree.high = 1;
        return tree.high;
    }

    int plants(int x, int y) {
        if (x < 0 || x > 9 || y < 0 || y > 9) return BAD;
        if (state.trees.size() == 7) return FULL;
        remember();
        state.trees.add(new Tree(x, y, 1, 2, 0));
        return state.trees.size() - 1;
    }

    int undo() {
        if (past.isEmpty()) return STATE;
        state = past.removeLast();
        return past.size();
    }

    private int enough() {
        int all = covered(state.trees);
        for (int many = 0; many <= 7; many++) {
            for (int set = 0; set < 1 << state.trees.size(); set++) {
                List<Tree> some = new ArrayList<>();
                for (int t = 0; t < state.trees.size(); t++) {
                    if ((set & 1 << t) != 0) some.add(state.trees.get(t));
                }
                if (some.size() == many && covered(some) == all) return set;
            }
        }
        throw new IllegalStateException("all trees are always enough");
    }

    int now(int what) {
        int sum = 0;
        switch (what) {
            case 0: return state.year;
            case 1: return covered(state.trees);
            case 2:
                for (int t = 0; t < state.trees.size(); t++) sum += state.trees.get(t).used > 0 ? 1 << t : 0;
                return sum;
            case 3:
                for (int h = 0; h < houses.size(); h++) sum += premium(h);
                return sum;
            case 4:
                for (int h = 0; h < houses.size(); h++) sum += state.struck[h];
                return sum;
            case 5: return enough();
            default: return BAD;
        }
    }

    int only(int h) {
        if (noHouse(h)) return BAD;
        for (int t = 0; t < 7; t++) {
            if (over(h) == 1 << t) return t;
        }
        return NONE;
    }

    int when(int h) {
        if (noHouse(h)) return BAD;
        State s = state.copy();
        for (int years = 0; years <= 60; years++, pass(s)) {
            if ((covered(s.trees) & 1 << h) != 0) return years;
        }
        return NONE;
    }

    private boolean allCoveredBehind(int n, int... places) {
        State s = state.copy();
        for (int p : places) s.trees.add(new Tree(p / 10, p % 10, 1, 2, 0));
        for (int i = 0; i < n; i++) pass(s);
        return covered(s.trees) == (1 << houses.size()) - 1;
    }

    int where(int n, int what) {
        if (n < 0 || n > 40 || what < 0 || what > 2) return BAD;
        if (allCoveredBehind(n)) return what == 0 ? 0 : NONE;
        for (int p = 0; p < 100; p++) {
            if (allCoveredBehind(n, p)) return new int[] {1, p, NONE}[what];
        }
        for (int p = 0; p < 100; p++) {
            for (int q = p; q < 100; q++) {
                if (allCoveredBehind(n, p, q)) return new int[] {2, p, q}[what];
            }
        }
        return NONE;
    }

    int sold(int t) {
        if (t != -1 && noTree(t)) return BAD;
        int[] pays = new int[7];
        for (House h : houses) {
            int best = -1;
            for (int i = state.trees.size() - 1; i >= 0; i--) {
                Tree tree = state.trees.get(i);
                if (covers(tree, h) && (best == -1 || tree.high >= state.trees.get(best).high)) best = i;
            }
            if (best >= 0) pays[best]++;
        }
        if (t >= 0) return pays[t];
        int most = NONE;
        for (int i = 6; i >= 0; i--) {
            if (pays[i] > 0 && (most == NONE || pays[i] >= pays[most])) most = i;
        }
        return most;
    }

    /** Each house chooses the tree that shall cover it. */
    private int ribbonsFrom(int h, int[] high) {
        if (h == houses.size()) {
            int sum = 0;
            for (int t = 0; t < state.trees.size(); t++) sum += high[t] - state.trees.get(t).high;
            return sum;
        }
        int best = Integer.MAX_VALUE;
        for (int t = 0; t < state.trees.size(); t++) {
            if (state.trees.get(t).used > 0 || !inReach(state.trees.get(t), houses.get(h))) continue;
            int was = high[t];
            high[t] = Math.max(was, houses.get(h).high + 1);
            best = Math.min(best, ribbonsFrom(h + 1, high));
            high[t] = was;
        }
        return best;
    }

    int ribbons() {
        if (houses.isEmpty()) return NONE;
        int[] high = new int[state.trees.size()];
        for (int t = 0; t < high.length; t++) high[t] = state.trees.get(t).high;
        int best = ribbonsFrom(0, high);
        return best == Integer.MAX_VALUE ? -5 : best;
    }

    int tracks(int what, int i) {
        if (what != 0 && what != 1 || (what == 0 ? noTree(i) : noHouse(i))) return BAD;
        int bits = 0;
        for (int y = 0; y < 10; y++) {
            if (strike(state.copy(), y) == (what == 0 ? i : 100 + i)) bits |= 1 << y;
        }
        return bits;
    }

    int odds(int h, int n, int what) {
        if (noHouse(h) || n < 0 || n > 3 || what != 0 && what != 1) return BAD;
        int all = (int) Math.pow(10, n);
        int hit = 0;
        for (int way = 0; way < all; way++) {
            State s = state.copy();
            int rest = way;
            boolean struck = false;
            for (int i = 0; i < n; i++, rest /= 10) struck |= strike(s, rest % 10) == 100 + h;
            if (struck) hit++;
        }
        int common = java.math.BigInteger.valueOf(hit).gcd(java.math.BigInteger.valueOf(all)).intValue();
        return (what == 0 ? hit : all) / common;
    }

    int war(int t, int h, int n) {
        if (noTree(t) || noHouse(h) || n < 0 || n > 99) return BAD;
        int mast = state.trees.get(t).high;
        int steeple = houses.get(h).high;
        for (int year = 0; year < 100; year++) {
            while (steeple <= mast) {
                if (n == 0) return year;
                n--;
                steeple++;
            }
            mast = Math.min(99, mast + state.trees.get(t).grows);
        }
        return NONE;
    }

    int saw(int bits) {
        if (bits < 0 || bits >= 1 << houses.size()) return BAD;
        int before = seen == null ? NONE : seen;
        seen = bits;
        return before;
    }

    int whose(int what) {
        if (what < 0 || what > 2) return BAD;
        List<Integer> found = new ArrayList<>();
        int bits = 0;
        for (int t = 0; seen != null && t < state.trees.size(); t++) {
            for (int n = 1; n <= 40; n++) {
                State s = state.copy();
                s.trees.get(t).high = Math.max(1, s.trees.get(t).high - n);
                if (covered(s.trees) == seen) {
                    found.add(100 * t + n);
                    bits |= 1 << t;
                }
            }
        }
        return what == 0 ? found.size() : what == 2 ? bits : found.isEmpty() ? NONE : found.get(0);
    }

    private static final long[] ASKED = {1, 10, 100, 1000, 10000, 100000};
    private static final int[] UP = {-1, 0, 0, 1, 2, 0};

    private int as(int kind, Tree t) {
        trace += ASKED[kind];
        int up = UP[kind] < 0 ? t.high : as(UP[kind], t);
        return switch (kind) {
            case 1 -> up + Integer.bitCount(covered(List.of(t)));
            case 2 -> up - t.x;
            case 3 -> up * 2;
            case 4 -> up + t.grows;
            case 5 -> up + state.year;
            default -> up;
        };
    }

    int mark(int kind, int t) {
        return kind < 0 || kind > 5 || noTree(t) ? NO : as(kind, state.trees.get(t));
    }

    private static Deque<State> copies(Deque<State> states) {
        Deque<State> other = new ArrayDeque<>();
        for (State s : states) other.addLast(s.copy());
        return other;
    }

    int keep(int image) {
        if (image != 0 && image != 1) return BAD;
        images[image] = state.copy();
        imagePasts.set(image, copies(past));
        return state.year;
    }

    int back(int image) {
        if (image != 0 && image != 1) return BAD;
        if (images[image] == null) return STATE;
        state = images[image].copy();
        past = copies(imagePasts.get(image));
        return state.year;
    }

    int count(int what) {
        if (what < 0 || what > 5) return BAD;
        return new int[] {state.trees.size(), houses.size(), reach, usedYears, past.size(), text.length()}[what];
    }

    long trace() {
        return trace;
    }
}
