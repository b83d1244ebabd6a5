import com.sun.management.ThreadMXBean;
import java.io.IOException;
import java.lang.management.ManagementFactory;
import java.lang.reflect.Field;
import java.lang.reflect.Method;
import java.lang.reflect.Modifier;
import java.nio.file.Files;
import java.nio.file.Path;
import java.util.ArrayList;
import java.util.List;
import java.util.Set;
import java.util.TreeSet;
import java.util.regex.Matcher;
import java.util.regex.Pattern;

/** The rules of ../shared/LANGUAGE.md, as far as they can be seen in the file and in what its calls make. */
public final class LanguageTest {
    private static final Due due = new Due("LanguageTest");
    private static final Path FILE = Path.of("src/main/java/BellHeirs.java");

    public static void main(String[] args) throws IOException {
        String code = bare(Files.readString(FILE));
        rule1(code);
        rule2(code);
        rules3And4(code);
        rule5();
        rule6(code);
        rule11(code);
        rule12(code);
        roomOfOneRun();
        due.end();
    }

    private static void is(String what, long got, long want) {
        due.is(what, got, want);
    }

    /** The file without its comments and with empty constants for its texts. */
    private static String bare(String file) {
        return file.replaceAll("(?s)/\\*.*?\\*/", "").replaceAll("//[^\n]*", "").replaceAll("\"[^\"\n]*\"", "\"\"")
            .replaceAll("'[^'\n]'", "' '");
    }

    private static int times(String pattern, String code) {
        Matcher found = Pattern.compile(pattern).matcher(code);
        int times = 0;
        while (found.find()) {
            times++;
        }
        return times;
    }

    private static List<Class<?>> classes() {
        List<Class<?>> all = new ArrayList<>(List.of(BellHeirs.class.getDeclaredClasses()));
        all.add(BellHeirs.class);
        return all;
    }

    private static void rule1(String code) {
        is("no package line", times("(?m)^\\s*package\\b", code), 0);
        Set<String> face = new TreeSet<>();
        for (Method m : BellHeirs.class.getDeclaredMethods()) {
            if (Modifier.isPublic(m.getModifiers())) {
                face.add(m.getName());
            }
        }
        for (Class<?> c : classes()) {
            for (Method m : c.getDeclaredMethods()) {
                boolean ownFace = c == BellHeirs.class && Modifier.isPublic(m.getModifiers());
                is(c.getName() + "." + m.getName() + " bears no name of the face",
                    !ownFace && face.contains(m.getName()) ? 1 : 0, 0);
            }
        }
    }

    private static void rule2(String code) {
        is("no lambda", times("->", code), 0);
        is("no method reference", times("::", code), 0);
        is("no anonymous class", times("new\\s+\\w+\\s*\\([^;{}]*\\)\\s*\\{", code), 0);
        for (Class<?> c : BellHeirs.class.getDeclaredClasses()) {
            is(c.getName() + " is static", Modifier.isStatic(c.getModifiers()) ? 1 : 0, 1);
            is(c.getName() + " has no class inside", c.getDeclaredClasses().length, 0);
        }
    }

    private static void rules3And4(String code) {
        is("no import", times("(?m)^\\s*import\\b", code), 0);
        is("no arrays of two dimensions of objects", times("[A-Z]\\w*\\s*\\[\\]\\[\\]", code), 0);
        is("no double, float", times("\\b(double|float)\\b", code), 0);
        is("no name that ends in Exact", times("\\w+Exact\\b", code), 0);
        Matcher calls = Pattern.compile("\\b(Math|Integer|Long|System|Arrays|String|Character|Object|Thread|Runtime)\\.(\\w+)")
            .matcher(code);
        Set<String> allowed = Set.of("Math.max", "Math.min", "Math.abs", "Integer.bitCount", "System.arraycopy");
        while (calls.find()) {
            is(calls.group() + " stands in the list", allowed.contains(calls.group()) ? 1 : 0, 1);
        }
    }

    private static void rule5() {
        for (Class<?> c : classes()) {
            for (Field f : c.getDeclaredFields()) {
                if (Modifier.isStatic(f.getModifiers())) {
                    is(f.getName() + " is final", Modifier.isFinal(f.getModifiers()) ? 1 : 0, 1);
                    String type = f.getType().getSimpleName();
                    is(f.getName() + " is a " + type,
                        Set.of("int", "long", "boolean", "char", "String", "int[]", "long[]", "char[]", "byte[]").contains(type)
                            ? 1 : 0, 1);
                }
            }
        }
    }

    private static void rule6(String code) {
        String[] words = {"throw", "throws", "try", "catch", "finally", "synchronized", "assert", "volatile", "transient",
            "native", "hashCode", "toString", "equals"};
        for (String word : words) {
            is("no " + word, times("\\b" + word + "\\b", code), 0);
        }
        is("no static initialiser", times("static\\s*\\{", code), 0);
    }

    private static void rule11(String code) {
        is("some twelve classes", classes().size() <= 12 ? 1 : 0, 1);
        for (Class<?> c : classes()) {
            int fields = 0;
            for (Field f : c.getDeclaredFields()) {
                fields += Modifier.isStatic(f.getModifiers()) ? 0 : 1;
            }
            is(c.getName() + " has " + fields + " fields", fields <= 20 ? 1 : 0, 1);
            for (Method m : c.getDeclaredMethods()) {
                is(m.getName() + " has seven parameters at most", m.getParameterCount() <= 7 ? 1 : 0, 1);
            }
        }
        // A method of a class inside begins by eight blanks, one of the class itself by four, and so do their ends.
        Matcher methods = Pattern.compile("(?ms)^( {4}| {8})(?! )(?![^\n]*\\bclass\\b)[^\n=;]*\\([^\n]*\\) \\{\n(.*?)^\\1\\}").matcher(code);
        int found = 0;
        while (methods.find()) {
            found++;
            int lines = times("\n", methods.group());
            is("a method of " + lines + " lines: " + methods.group().trim().split("\n")[0], lines <= 60 ? 1 : 0, 1);
        }
        is("methods are found", found > 41 ? 1 : 0, 1);
    }

    /** Objects are made by fields, constructors, law(), image() and what keeps deeds: not by other calls. */
    private static void rule12(String code) {
        int made = times("(?m)^\\s+(private |final |private final |private static final |static final )*[\\w\\[\\]]+ \\w+ = new ", code);
        int byConstructors = times("(?m)^\\s+(kind|times|marks|steps) = new int", code);
        is("objects are made by these alone", times("\\bnew\\b", code), made + byConstructors + 3);
        is("law()", times("new Text\\(reader\\.text\\)", code), 1);
        is("image()", times("images\\[k\\] = new Suburb\\(\\)", code), 1);
        is("what keeps deeds", times("ledgers\\[next\\] = new Ledger\\(\\)", code), 1);
    }

    /** All calls of one run live in one room: its dearest calls, some 400, take a small part of it. */
    private static void roomOfOneRun() {
        ThreadMXBean threads = (ThreadMXBean) ManagementFactory.getThreadMXBean();
        if (!threads.isThreadAllocatedMemorySupported()) {
            return;
        }
        long thread = Thread.currentThread().getId();
        dearRun();
        long before = threads.getThreadAllocatedBytes(thread);
        dearRun();
        long bytes = threads.getThreadAllocatedBytes(thread) - before;
        is("a run makes " + bytes + " bytes", bytes < 600_000 ? 1 : 0, 1);
    }

    /** LAWS of all but 400 bytes, one after the other, gone back from so that there is room again. */
    private static void dearRun() {
        BellHeirs x = new BellHeirs();
        for (int i = 0; i < 2; i++) {
            x.house(0, 0);
            x.person(0, 0, 0);
            x.right(0, i, 99);
        }
        x.image(0);
        x.image(1);
        for (int i = 0; i < 20; i++) {
            x.ring(0, 0);
        }
        for (int round = 0; round < 3; round++) {
            for (int law = 0; law < 6; law++) {
                // "bars if 1=1 or 1=1 or ..", of 200 bytes: its five numbers are four letters each.
                x.feed(0x62617273, 0x20696620, 0x20202020, 0x20313d31, 0x206f7220);
                for (int i = 0; i < 8; i++) {
                    x.feed(0x20313d31, 0x206f7220, 0x20313d31, 0x206f7220, 0x20202020);
                }
                x.feed(0x20313d31, 0x20202020, 0x20202020, 0x20202020, 0x20202020);
                is("16 dear", x.law(), law);
            }
            x.back(0);
        }
        for (int i = 0; i < 60; i++) {
            x.visits(0, 99, -1);
            x.exchange(0);
            x.generations(i, 60);
        }
    }
}
