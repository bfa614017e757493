import com.sun.management.ThreadMXBean;
import java.io.IOException;
import java.lang.management.ManagementFactory;
import java.lang.reflect.Constructor;
import java.lang.reflect.Field;
import java.lang.reflect.Method;
import java.lang.reflect.Modifier;
import java.nio.file.Files;
import java.nio.file.Path;
import java.util.Arrays;
import java.util.Set;
import java.util.TreeSet;
import java.util.regex.Matcher;
import java.util.regex.Pattern;

/** The public face, the rules of LANGUAGE.md that can be seen from outside, and what calls make. */
public final class FaceTest {
    private static final String[] FACE = {
        "int clay(int)", "int pair(int,int,int)", "int listed(int)", "int potter(int,int)", "int of(int,int)",
        "int change(int,int,int)", "int rift(int,int,int)", "int two(int,int,int)", "int go(int)", "int now(int)",
        "int ahead(int,int,int)", "int terms(int,int,int)", "int next(int)", "int peace(int,int,int)", "int when(int,int)",
        "int setWith(int,int,int)", "int heatFor(int,int)", "int kindFor(int,int)", "int clayFor(int,int)",
        "int reconcile(int)", "int fits(int,int,int)", "int kinds(int,int)", "int market(int)",
        "long odds(int,int,int,int)", "int seed(int)", "int feed(int,int)", "int wipe()", "int text()", "int hold(int,int)",
        "int as(int,int)", "int sheet(int,int,int)", "int write(int,int,int)", "int copy(int,int,int,int,int)",
        "int load(int)", "int judge(int)", "int image()", "int undo()", "int tear()", "int count(int)", "int status(int)",
    };
    private static final String[] RULED_OUT = {
        "\\bthrow\\b", "\\btry\\b", "\\bcatch\\b", "\\bsynchronized\\b", "\\bassert\\b", "->", "::", "Exact\\(", "\\brecord\\b",
        "\\bpackage\\b", "\\bprotected\\b", "\\binstanceof\\b", "\\bSystem\\.(?!arraycopy)", "\\bThread\\b", "\\bRandom\\b", "\\bnull\\b",
    };

    public static void main(String[] args) throws IOException {
        face();
        nothingElse();
        nestedClasses();
        source();
        shortMethods();
        makesNothing();
        Check.end();
    }

    private static void face() {
        Set<String> want = new TreeSet<>(Arrays.asList(FACE));
        Set<String> got = new TreeSet<>();
        for (Method m : TwoWheel.class.getDeclaredMethods()) {
            if (Modifier.isPublic(m.getModifiers()) && !Modifier.isStatic(m.getModifiers())) {
                String types = String.join(",", Arrays.stream(m.getParameterTypes()).map(Class::getName).toArray(String[]::new));
                got.add(m.getReturnType().getName() + " " + m.getName() + "(" + types + ")");
            }
        }
        Check.due("the face " + got, got.equals(want) ? 1 : 0, 1);
        Check.due("public and final", TwoWheel.class.getModifiers(), Modifier.PUBLIC | Modifier.FINAL);
        Constructor<?>[] made = TwoWheel.class.getDeclaredConstructors();
        Check.due("one constructor", made.length, 1);
        Check.due("public", made[0].getModifiers(), Modifier.PUBLIC);
        Check.due("without parameters", made[0].getParameterCount(), 0);
    }

    private static void nothingElse() {
        for (Method m : TwoWheel.class.getDeclaredMethods()) {
            int mods = m.getModifiers();
            boolean isFace = Modifier.isPublic(mods) && !Modifier.isStatic(mods);
            Check.due(m + " is of the face or private", isFace || Modifier.isPrivate(mods) ? 1 : 0, 1);
        }
        for (Field f : TwoWheel.class.getDeclaredFields()) {
            Check.due(f + " is private", Modifier.isPrivate(f.getModifiers()) ? 1 : 0, 1);
        }
    }

    private static void nestedClasses() {
        Set<String> names = new TreeSet<>();
        for (String call : FACE) {
            names.add(call.substring(call.indexOf(' ') + 1, call.indexOf('(')));
        }
        dueFields(TwoWheel.class);
        for (Class<?> c : TwoWheel.class.getDeclaredClasses()) {
            Check.due(c + " is static", Modifier.isStatic(c.getModifiers()) ? 1 : 0, 1);
            Check.due(c + " isn't public", Modifier.isPublic(c.getModifiers()) ? 1 : 0, 0);
            for (Method m : c.getDeclaredMethods()) {
                Check.due(m + " has a name of its own", names.contains(m.getName()) ? 1 : 0, 0);
            }
            dueFields(c);
        }
        for (Method m : TwoWheel.class.getDeclaredMethods()) {
            if (Modifier.isPrivate(m.getModifiers())) {
                Check.due(m + " has a name of its own", names.contains(m.getName()) ? 1 : 0, 0);
            }
            Check.due(m + " has at most seven parameters", m.getParameterCount() <= 7 ? 1 : 0, 1);
        }
        Check.due("classes", TwoWheel.class.getDeclaredClasses().length <= 11 ? 1 : 0, 1);
    }

    private static void dueFields(Class<?> c) {
        int own = 0;
        for (Field f : c.getDeclaredFields()) {
            if (Modifier.isStatic(f.getModifiers())) {
                Check.due(f + " is final", Modifier.isFinal(f.getModifiers()) ? 1 : 0, 1);
            } else {
                own++;
            }
        }
        Check.due("fields of " + c, own <= 20 ? 1 : 0, 1);
    }

    private static String code() throws IOException {
        String source = Files.readString(Path.of(System.getProperty("twowheel.source", "src/main/java/TwoWheel.java")));
        return source.replaceAll("(?s)/\\*.*?\\*/", "").replaceAll("//[^\n]*", "");
    }

    private static void source() throws IOException {
        String code = code();
        for (String word : RULED_OUT) {
            Check.due("no " + word, Pattern.compile(word).matcher(code).find() ? 1 : 0, 0);
        }
        Matcher imports = Pattern.compile("import ([^;]+);").matcher(code);
        while (imports.find()) {
            Check.due("import " + imports.group(1), imports.group(1).equals("java.util.Arrays") ? 1 : 0, 1);
        }
        Check.due("signs 1 to 127", code.chars().allMatch(c -> c > 0 && c < 128) ? 1 : 0, 1);
    }

    /** A method begins with a line that ends in ") {" behind a type and a name, and ends at the same indent. */
    private static void shortMethods() throws IOException {
        Matcher methods = Pattern.compile("(?m)^( +)((?:\\w+(?:\\[\\])? )+\\w+)\\([^()]*\\) \\{\n((?:(?!\\1\\}).*\n)*)\\1\\}").matcher(code());
        int seen = 0;
        while (methods.find()) {
            seen++;
            long lines = methods.group(3).lines().count();
            Check.due(methods.group(2) + " has " + lines + " lines", lines <= 60 ? 1 : 0, 1);
        }
        Check.due("methods seen", seen > 80 ? 1 : 0, 1);
    }

    /** All calls of one run live in one room, so that a call must make next to nothing. */
    private static void makesNothing() {
        java.lang.management.ThreadMXBean bean = ManagementFactory.getThreadMXBean();
        if (!(bean instanceof ThreadMXBean)) {
            return;
        }
        ThreadMXBean counter = (ThreadMXBean) bean;
        TwoWheel x = Check.pottery("boy care 0;boy;father;partner heat 50;husband;son;stranger;potter", "pair 1 2 3;pair 2 4 5");
        everyCall(x);
        long was = counter.getThreadAllocatedBytes(Thread.currentThread().getId());
        for (int i = 0; i < 12; i++) {
            everyCall(x);
        }
        long made = counter.getThreadAllocatedBytes(Thread.currentThread().getId()) - was;
        Check.due("bytes made by some 500 calls: " + made, made <= 16384 ? 1 : 0, 1);
    }

    private static void everyCall(TwoWheel x) {
        x.clay(9);
        x.pair(3, 6, 7);
        x.listed(3);
        x.potter(0, 0);
        x.of(0, 6);
        x.change(0, 1, 40);
        x.rift(0, 1, 60);
        x.two(0, 1, 3);
        x.go(2);
        x.now(5);
        x.ahead(0, 6, 50);
        x.terms(0, 1, 50);
        x.next(1);
        x.peace(0, 1, 0);
        x.when(0, 9999);
        x.setWith(0, 1, 30);
        x.heatFor(0, 30);
        x.kindFor(0, 30);
        x.clayFor(0, 30);
        x.reconcile(20);
        x.sheet(0, 8, 40);
        x.write(0, 0, -1);
        x.fits(0, 0, 1);
        x.kinds(0, 0);
        x.market(3);
        x.odds(0, 1, 14, 1);
        x.seed(7);
        x.feed('c' << 24 | 'l' << 16 | 'a' << 8 | 'y', 4);
        x.feed(' ' << 8 | '7', 2);
        x.text();
        x.feed('?', 1);
        x.text();
        x.wipe();
        x.hold(0, 0);
        x.as(0, 0);
        x.copy(0, 0, 0, 1, 9);
        x.load(0);
        x.judge(0);
        x.image();
        x.undo();
        x.tear();
        x.count(7);
        x.status(-1);
    }
}
