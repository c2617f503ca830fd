import java.lang.reflect.Field;
import java.lang.reflect.InvocationTargetException;
import java.lang.reflect.Method;
import java.lang.reflect.Modifier;
import java.util.ArrayList;
import java.util.Arrays;
import java.util.HashSet;
import java.util.List;
import java.util.NoSuchElementException;
import java.util.Random;
import java.util.Set;
import java.util.TreeSet;

/**
 * The public face: what it has and no more; and that, for any arguments in any state, nothing is thrown but what
 * promise 7 names, with the same answer each time.
 */
public final class FaceTest {
    private static final String[] FACE = {
        "int feed(int,int,int,int,int)", "boolean end(int)", "int fault(int)", "int text(int)", "int rule(int)",
        "int person(int,int) NoSuchElementException", "int grudge(int,int)", "boolean law(int)", "int days(int)",
        "int offends(int,int)", "int forgives(int)", "int becomes(int,int)", "int give(int)", "boolean mercy(int)",
        "int years(int,long)", "int status(int)", "int undo()", "int log(int,int)", "int weighs(int,int)",
        "int stays(int)", "int empty()", "int fewest(int,int,int)", "int rid(int)", "int treaty(int,int)",
        "int seen(int,int,boolean)", "int weights(int,int)", "int whom(int,int)", "int game(int,int,int,int,int)",
        "int rests(int,int,int)", "int odds(int,int,int)", "int shares(int,int)", "int most(int)", "int image()",
        "int back()", "int count(int)"};

    private static final int[] NUMBERS = {Integer.MIN_VALUE, Integer.MIN_VALUE + 1, -1000000, -2, -1, 0, 1, 2, 3, 4, 5,
        9, 10, 11, 12, 13, 30, 31, 32, 60, 61, 99, 100, 101, 240, 241, 999, 1000, 1 << 30, Integer.MAX_VALUE};
    private static final long[] SEEDS = {Long.MIN_VALUE, -1, 0, 1, 12345, Long.MAX_VALUE};
    private static final String[] TOWNS = {"p;p", "p;p;g", "sf0;p;p;p;p;p;go1a0w30k2;go4a3k1;g",
        "sf9k0;pt9l0;pt0l9;p;go2a0w1;go2a1k2;go0a2w2;go0a2w3;go0a2;go0a2;go0a2;go0a2;go0a2;go0a2"};
    private static final String[] LAWS = {"y:9999*9999*[0-9999]", "y:t=1|s<d?9/[n-n];y:m*l", "y:!(n>1)?d;y:s"};
    private static final int RUNS = 60;
    private static final int CALLS = 300;

    private FaceTest() {
    }

    public static void main(String[] args) throws IllegalAccessException {
        methods();
        members();
        for (int run = 0; run < RUNS; run++) {
            anyCalls(run);
        }
        Check.finish();
    }

    private static void methods() {
        Set<String> found = new TreeSet<>();
        for (Method method : faceMethods()) {
            StringBuilder told = new StringBuilder(method.getReturnType() + " " + method.getName() + "(");
            for (int i = 0; i < method.getParameterCount(); i++) {
                told.append(i == 0 ? "" : ",").append(method.getParameterTypes()[i]);
            }
            told.append(")");
            for (Class<?> thrown : method.getExceptionTypes()) {
                told.append(" ").append(thrown.getSimpleName());
            }
            found.add(told.toString());
        }
        for (String method : FACE) {
            Check.due("the face has " + method, found.remove(method), true);
        }
        Check.due("the face has more: " + found, found.size(), 0);
    }

    private static void members() {
        Class<?> face = GrudgeTown.class;
        Check.due("public and final", face.getModifiers(), Modifier.PUBLIC | Modifier.FINAL);
        Check.due("NONE", GrudgeTown.NONE, -1);
        Check.due("HIDDEN", GrudgeTown.HIDDEN, -1000000);
        Check.due("constructors", face.getDeclaredConstructors().length, 1);
        Check.due("a public constructor", face.getDeclaredConstructors()[0].getModifiers(), Modifier.PUBLIC);
        Set<String> names = new HashSet<>();
        for (Method method : faceMethods()) {
            names.add(method.getName());
        }
        for (Method method : face.getDeclaredMethods()) {
            if (!Modifier.isPublic(method.getModifiers())) {
                String name = method.getName();
                Check.due(name + " is private", Modifier.isPrivate(method.getModifiers()), true);
                Check.due(name + " has a public one's name", names.contains(name), false);
            }
        }
        for (Field field : face.getDeclaredFields()) {
            boolean constant = field.getName().equals("NONE") || field.getName().equals("HIDDEN");
            Check.due(field.getName() + " is public", Modifier.isPublic(field.getModifiers()), constant);
            Check.due(field.getName() + " is private", Modifier.isPrivate(field.getModifiers()), !constant);
        }
        for (Class<?> inside : face.getDeclaredClasses()) {
            Check.due(inside + " is static", Modifier.isStatic(inside.getModifiers()), true);
            Check.due(inside + " is public", Modifier.isPublic(inside.getModifiers()), false);
        }
    }

    private static List<Method> faceMethods() {
        List<Method> found = new ArrayList<>();
        for (Method method : GrudgeTown.class.getDeclaredMethods()) {
            if (Modifier.isPublic(method.getModifiers())) {
                found.add(method);
            }
        }
        found.sort((one, other) -> one.getName().compareTo(other.getName()));
        return found;
    }

    /** Two objects are asked the same, so that an answer that hangs on more than the calls would show. */
    private static void anyCalls(int run) throws IllegalAccessException {
        Random random = new Random(run);
        GrudgeTown one = new GrudgeTown();
        GrudgeTown other = new GrudgeTown();
        List<Method> face = faceMethods();
        for (int i = 0; i < CALLS; i++) {
            if (random.nextInt(25) == 0) {
                tell(one, other, random);
            }
            Method method = face.get(random.nextInt(face.size()));
            Object[] values = values(method, random);
            String call = "run " + run + ": " + method.getName() + Arrays.toString(values);
            String got = answer(method, one, values);
            Check.due(call + " " + got, got.startsWith("throws.") && !isMeant(method, got), false);
            Check.due(call + " answers the same", got.equals(answer(method, other, values)), true);
        }
    }

    private static void tell(GrudgeTown one, GrudgeTown other, Random random) {
        int sort = random.nextInt(3) == 0 ? 1 : 0;
        String text = sort == 1 ? LAWS[random.nextInt(LAWS.length)] : TOWNS[random.nextInt(TOWNS.length)];
        for (GrudgeTown town : new GrudgeTown[] {one, other}) {
            town.end(0);
            Check.feed(town, text);
            town.text(sort);
        }
    }

    private static Object[] values(Method method, Random random) {
        Class<?>[] types = method.getParameterTypes();
        Object[] values = new Object[types.length];
        boolean near = random.nextInt(3) > 0;
        for (int i = 0; i < types.length; i++) {
            if (types[i] == boolean.class) {
                values[i] = random.nextBoolean();
            } else if (types[i] == long.class) {
                values[i] = SEEDS[random.nextInt(SEEDS.length)];
            } else {
                values[i] = near ? random.nextInt(4) : NUMBERS[random.nextInt(NUMBERS.length)];
            }
        }
        return values;
    }

    private static String answer(Method method, GrudgeTown town, Object[] values) throws IllegalAccessException {
        try {
            return method.invoke(town, values).toString();
        } catch (InvocationTargetException e) {
            return "throws." + e.getCause().getClass().getName();
        }
    }

    private static boolean isMeant(Method method, String got) {
        return method.getName().equals("person") && got.equals("throws." + NoSuchElementException.class.getName());
    }
}
