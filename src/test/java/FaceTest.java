import java.io.IOException;
import java.lang.management.ManagementFactory;
import java.lang.reflect.Constructor;
import java.lang.reflect.Field;
import java.lang.reflect.Method;
import java.lang.reflect.Modifier;
import java.nio.file.Files;
import java.nio.file.Path;
import java.util.ArrayList;
import java.util.Arrays;
import java.util.List;
import java.util.TreeSet;
import java.util.regex.Matcher;
import java.util.regex.Pattern;

/** The public face, word by word; rules of LANGUAGE.md that can be looked at; that no call makes objects. */
public final class FaceTest {
    private static final String[] FACE = {
        "int type(int)", "int clear()", "int field()", "int tree(int,int)", "int house(int,int)", "int year()",
        "int storm(int)", "int tops(int,int)", "int plants(int,int)", "int undo()", "int now(int)", "int only(int)",
        "int when(int)", "int where(int,int)", "int sold(int)", "int ribbons()", "int tracks(int,int)",
        "int odds(int,int,int)", "int war(int,int,int)", "int saw(int)", "int whose(int)", "int mark(int,int)",
        "int keep(int)", "int back(int)", "int count(int)", "long trace()"};

    private FaceTest() {
    }

    public static void main(String[] args) throws IOException {
        face();
        source();
        room();
        Check.end("FaceTest");
    }

    private static void fine(String what, boolean is) {
        Check.due(what, is ? 1 : 0, 1);
    }

    private static String told(Method m) {
        List<String> of = new ArrayList<>();
        for (Class<?> c : m.getParameterTypes()) of.add(c.getName());
        return m.getReturnType().getName() + " " + m.getName() + "(" + String.join(",", of) + ")";
    }

    private static void face() {
        Class<TallerTrees> c = TallerTrees.class;
        TreeSet<String> names = new TreeSet<>();
        TreeSet<String> open = new TreeSet<>();
        for (Method m : c.getDeclaredMethods()) {
            if (Modifier.isPublic(m.getModifiers())) {
                open.add(told(m));
                names.add(m.getName());
                fine(m + " is no static one", !Modifier.isStatic(m.getModifiers()));
            }
        }
        fine("the public methods " + open, open.equals(new TreeSet<>(Arrays.asList(FACE))));
        List<Class<?>> all = new ArrayList<>(List.of(c.getDeclaredClasses()));
        for (Class<?> inside : all) fine(inside + " is static", Modifier.isStatic(inside.getModifiers()));
        for (Method m : c.getDeclaredMethods()) {
            if (Modifier.isPublic(m.getModifiers()) || m.isSynthetic()) continue;
            fine(m + " is private", Modifier.isPrivate(m.getModifiers()));
        }
        all.add(c);
        for (Class<?> each : all) {
            for (Method m : each.getDeclaredMethods()) {
                if (each == c && Modifier.isPublic(m.getModifiers())) continue;
                fine(m + " has no public one's name", !names.contains(m.getName()));
                fine(m + " has seven parameters at most", m.getParameterCount() <= 7);
            }
        }
        TreeSet<String> fields = new TreeSet<>();
        for (Field f : c.getDeclaredFields()) {
            if (Modifier.isPublic(f.getModifiers())) fields.add(f.getName());
            else fine(f + " is private", Modifier.isPrivate(f.getModifiers()));
        }
        fine("the constants " + fields, fields.equals(new TreeSet<>(List.of("BAD", "STATE", "FULL", "NONE", "NO"))));
        Constructor<?>[] made = c.getDeclaredConstructors();
        fine("one constructor", made.length == 1 && made[0].getParameterCount() == 0
            && Modifier.isPublic(made[0].getModifiers()));
        fine("final", Modifier.isFinal(c.getModifiers()) && c.getPackageName().isEmpty());
        fine("some twelve classes", all.size() <= 12);
    }

    private static void source() throws IOException {
        String text = Files.readString(Path.of("src/main/java/TallerTrees.java"));
        for (int i = 0; i < text.length(); i++) {
            if (text.charAt(i) > 127) fine("sign " + i + " is 127 at most", false);
        }
        String code = text.replaceAll("(?s)/\\*.*?\\*/", " ").replaceAll("//[^\n]*", " ");
        String[] never = {"\\bthrow\\b", "\\btry\\b", "\\bcatch\\b", "\\bsynchronized\\b", "\\bassert\\b", "\\bimport\\b",
            "\\bpackage\\b", "->", "::", "Exact\\b", "\\bequals\\b", "\\bhashCode\\b", "\\btoString\\b", "\"",
            "\\bSystem\\.(?!arraycopy)", "\\bdouble\\b", "\\bfloat\\b", "\\bprotected\\b"};
        for (String word : never) {
            Matcher m = Pattern.compile(word).matcher(code);
            fine("the class has no " + word, !m.find());
        }
        // a method begins with a line of 4 or 8 blanks that ends with ") {", and ends with as many and }
        Matcher m = Pattern.compile("(?m)^(    |        )(?! )[^\n=]*\\) \\{\n(.*\n)*?\\1\\}\n").matcher(code);
        int methods = 0;
        while (m.find()) {
            methods++;
            String head = m.group().substring(0, m.group().indexOf('\n'));
            fine("short: " + head, m.group().lines().count() <= 60);
            boolean constructs = head.matches(" +(public )?[A-Z]\\w*\\(.*");
            fine("makes nothing: " + head, constructs || !m.group().contains("new "));
        }
        fine("methods were looked at: " + methods, methods > 60);
    }

    // Some 450 calls: an object is good for 512.
    private static void play(TallerTrees x) {
        for (int i = 0; i < 4; i++) {
            x.year();
            x.storm(i);
            x.tops(0, 1);
            x.plants(i, i);
            x.keep(1);
            x.back(1);
            x.undo();
            x.saw(i);
            for (int what = 0; what <= 5; what++) {
                x.tree(0, what);
                x.house(0, what);
                x.now(what);
                x.where(i, what);
                x.tracks(what, 0);
                x.odds(0, 3, what);
                x.whose(what);
                x.mark(what, 0);
                x.count(what);
            }
            x.only(0);
            x.when(0);
            x.sold(-1);
            x.sold(0);
            x.ribbons();
            x.war(0, 0, 99);
            x.trace();
            x.clear();
            for (int k = 0; k < 40; k++) x.type("t1 1 20 1;t4 1 12 2;h2 2 15;h5 2 11;r3; ".charAt(k));
            x.field();
        }
    }

    private static void room() {
        com.sun.management.ThreadMXBean beans = (com.sun.management.ThreadMXBean) ManagementFactory.getThreadMXBean();
        TallerTrees[] made = new TallerTrees[150];
        for (int i = 0; i < made.length; i++) made[i] = new TallerTrees();
        for (int i = 0; i < 50; i++) play(made[i]);
        long before = beans.getCurrentThreadAllocatedBytes();
        for (int i = 50; i < made.length; i++) play(made[i]);
        long bytes = beans.getCurrentThreadAllocatedBytes() - before;
        fine("calls make no objects: " + bytes + " bytes", bytes < 4096);
        before = beans.getCurrentThreadAllocatedBytes();
        for (int i = 0; i < 100; i++) new TallerTrees();
        bytes = (beans.getCurrentThreadAllocatedBytes() - before) / 100;
        fine("an object has a small room: " + bytes + " bytes", bytes < 12000);
    }
}
