/** What the tests share: objects told by a text, answers compared, the exit code. */
final class Check {
    private static int wrong = 0;
    private static int seen = 0;

    private Check() {
    }

    static void due(String call, long got, long want) {
        seen++;
        if (got != want) {
            wrong++;
            if (wrong <= 50) {
                System.out.println(call + " answered " + got + ", due is " + want);
            }
        }
    }

    static void types(TallerTrees x, String text) {
        for (int i = 0; i < text.length(); i++) {
            due("type of byte " + i + " of '" + text + "'", x.type(text.charAt(i)) > 0 ? 1 : 0, 1);
        }
    }

    static TallerTrees told(String text) {
        TallerTrees x = new TallerTrees();
        types(x, text);
        int items = x.field();
        due("items of '" + text + "'", items, text.chars().filter(c -> c == ';').count());
        return x;
    }

    /** What field() answers to a text, typed into a new object. */
    static int read(String text) {
        TallerTrees x = new TallerTrees();
        types(x, text);
        return x.field();
    }

    static void years(TallerTrees x, int many) {
        for (int i = 0; i < many; i++) {
            x.year();
        }
    }

    static int wrongs() {
        return wrong;
    }

    static void end(String name) {
        System.out.println(name + ": " + (seen - wrong) + " of " + seen + " answers are as due");
        if (wrong > 0 || seen == 0) {
            System.exit(1);
        }
    }
}
