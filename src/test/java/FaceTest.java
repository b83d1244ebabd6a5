import java.lang.reflect.Constructor;
import java.lang.reflect.Field;
import java.lang.reflect.Method;
import java.lang.reflect.Modifier;
import java.util.ArrayList;
import java.util.List;
import java.util.Random;
import java.util.TreeSet;

/** The public face is just the document's, and no call throws, whatever it is given. */
public final class FaceTest {
    private static final Due due = new Due("FaceTest");
    private static final String[] FACE = {
        "int house(int,int)", "int at(int,int)", "int person(int,int,int)", "int of(int,int)", "int want(int,int)",
        "int will(int,int)", "int right(int,int,int)", "int has(int,int,int)", "int asks(int,int,int,int)",
        "int terms(int,int)", "int feed(int,int,int,int,int)", "int end(int)", "int row()", "int rust()", "int law()",
        "int orders()", "int fault()", "int stopped()", "int force(int)", "int ring(int,int)", "int sell(int,int,int)",
        "int die(int)", "int pass()", "int undo()", "int visits(int,int,int)", "int exchange(int)", "int clue(int,int)",
        "int forget()", "int who()", "int look(int)", "int amend(int,int)", "int given(int,int,int)",
        "int keep(int,int,int,int)", "int chain(int,int,int,int)", "long likely(int,int)", "int generations(int,int)",
        "int drawn(int,int)", "int image(int)", "int back(int)", "int count(int)", "int status()"};

    public static void main(String[] args) throws Exception {
        List<Method> methods = face();
        int[] extremes = {Integer.MIN_VALUE, Integer.MIN_VALUE + 1, -1000, -2, -1, 0, 1, 2, 3, 5, 6, 7, 8, 20, 31, 32, 33,
            60, 99, 100, 400, 999, 1000, 1000000, Integer.MAX_VALUE - 1, Integer.MAX_VALUE};
        for (int run = 0; run < 60; run++) {
            throwNothing(methods, extremes, new Random(run), run);
        }
        due.is("NONE", BellHeirs.NONE, -1);
        due.end();
    }

    private static List<Method> face() {
        due.is("final", BellHeirs.class.getModifiers(), Modifier.PUBLIC | Modifier.FINAL);
        TreeSet<String> found = new TreeSet<>();
        List<Method> methods = new ArrayList<>();
        for (Method m : BellHeirs.class.getDeclaredMethods()) {
            if (!Modifier.isPrivate(m.getModifiers()) && !m.isSynthetic()) {
                StringBuilder types = new StringBuilder();
                for (Class<?> type : m.getParameterTypes()) {
                    types.append(types.length() > 0 ? "," : "").append(type.getName());
                }
                found.add(m.getReturnType() + " " + m.getName() + "(" + types + ")");
                due.is(m.getName() + " is public", Modifier.isPublic(m.getModifiers()) ? 1 : 0, 1);
                methods.add(m);
            }
        }
        due.is("methods " + found, found.equals(new TreeSet<>(List.of(FACE))) ? 1 : 0, 1);
        for (Field f : BellHeirs.class.getDeclaredFields()) {
            due.is(f.getName(), Modifier.isPrivate(f.getModifiers()) || f.getName().equals("NONE") ? 1 : 0, 1);
        }
        for (Constructor<?> c : BellHeirs.class.getDeclaredConstructors()) {
            due.is("constructor", c.getParameterCount(), 0);
        }
        for (Class<?> c : BellHeirs.class.getDeclaredClasses()) {
            due.is(c.getName() + " is static", Modifier.isStatic(c.getModifiers()) ? 1 : 0, 1);
        }
        return methods;
    }

    private static void throwNothing(List<Method> methods, int[] extremes, Random random, int run) {
        BellHeirs x = new BellHeirs();
        for (int i = 0; i < 512; i++) {
            Method m = methods.get(random.nextInt(methods.size()));
            Object[] given = new Object[m.getParameterCount()];
            for (int k = 0; k < given.length; k++) {
                // In half of the runs most numbers are small, so that something stands.
                given[k] = run % 2 == 0 || random.nextInt(6) == 0 ? extremes[random.nextInt(extremes.length)]
                    : random.nextInt(6);
            }
            if (random.nextInt(10) == 0) {
                Due.put(x, random.nextBoolean() ? "tires [age+1]/left;opens if not purse<to" : "ring 0 at 0;sell 1 to 0 of 1");
            }
            boolean fine = true;
            try {
                m.invoke(x, given);
            } catch (ReflectiveOperationException e) {
                System.out.println(m.getName() + List.of(given) + " " + e.getCause());
                fine = false;
            }
            due.is(m.getName(), fine ? 1 : 0, 1);
        }
    }
}
