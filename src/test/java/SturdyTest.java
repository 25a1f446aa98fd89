import java.lang.reflect.InvocationTargetException;
import java.lang.reflect.Method;
import java.lang.reflect.Modifier;
import java.util.Comparator;
import java.util.NoSuchElementException;
import java.util.Random;
import java.util.Set;
import java.util.TreeSet;

/**
 * Every call of the face with wild arguments in many states: nothing but what the document names is ever thrown,
 * what is asked changes nothing, what is refused changes nothing but STATUS.
 */
public final class SturdyTest {
    private static final Bench BENCH = new Bench("SturdyTest");
    private static final int CALLS = 120;
    private static final int[] WILD = {Integer.MIN_VALUE, Integer.MIN_VALUE + 1, -1000000, -3, -2, -1, 0, 1, 2, 3, 4, 5, 6,
        7, 8, 9, 10, 11, 12, 13, 31, 32, 33, 50, 51, 59, 60, 61, 63, 64, 127, 128, 239, 240, 241, 999, 1000, 9999, 10000,
        Integer.MAX_VALUE - 1, Integer.MAX_VALUE};
    private static final Set<String> ASKING = Set.of("fault", "rule", "name", "well", "file", "status", "log", "layer",
            "reach", "faction", "silence", "gone", "sure", "ask", "game", "rests", "odds", "shares", "most", "known",
            "quiet", "count");
    // Of these calls -1 tells who came up by a pen: nobody, which is an act all the same.
    private static final Set<String> REFUSING_BY_MINUS_TWO = Set.of("scratch", "blot");
    private static final Set<String> STATUS_KEEPING = Set.of("dip", "scratch", "blot", "water", "fill", "give", "years");

    public static void main(String[] args) throws Exception {
        Set<Method> methods = new TreeSet<>(Comparator.comparing(Method::getName));
        for (Method method : DrownedNames.class.getDeclaredMethods()) {
            if (Modifier.isPublic(method.getModifiers())) {
                methods.add(method);
            }
        }
        BENCH.due("calls of the face", methods.size(), 39);
        Random random = new Random(11);
        for (Method method : methods) {
            for (int state = 0; state < 7; state++) {
                DrownedNames x = inState(state);
                for (int call = 0; call < CALLS; call++) {
                    tryOut(x, method, wild(method, random), "state " + state);
                }
            }
        }
        BENCH.finish();
    }

    private static DrownedNames inState(int state) {
        switch (state) {
            case 0:
                return new DrownedNames();
            case 1:
                return Bench.ministry("w;nf1;n");
            case 2:
                return crowded("sc99;wd30;wd30r1;wd29;wd30;ns1f6;ns2;ns3f1o1;ns4f2;ns5;nf0;nf0o1;f;fa2b3;fa3b0;fa6b5;fa4b1;f");
            case 3:
                DrownedNames held = crowded("sd3c0;wd30;wd30;ns1f1;ns1f2;ns1f0;f;fa1b2");
                Bench.hold(held, "y:!(a>2|k=0)&s<9?9999*9999*s/[k-k]+w;y:0-9999");
                return held;
            case 4:
                DrownedNames last = crowded("sc50;wd30;nf1;n;n;f");
                for (int i = 0; i < 17; i++) {
                    last.years(58);
                    last.decades(Math.min(60, 999 - last.count(6)), i);
                }
                return last;
            case 5:
                DrownedNames full = crowded("wd9;wd0r1;nf1;n;no1;f;f");
                for (int i = 0; i < 10; i++) {
                    full.seen(i % 2, i == 9 ? 2 : 1);
                }
                for (int i = 0; i < 4; i++) {
                    Bench.hold(full, "y:y*a-[k+o]");
                }
                Bench.tell(full, "y:[[[[[[[1]]]]]]]".repeat(14));
                return full;
            default:
                DrownedNames begun = crowded("w;w;nf1;n;n;f");
                Bench.tell(begun, "  y : 1 = 1 ? 99999");
                return begun;
        }
    }

    /** As many as can be are drowned, there is an image, there are acts. */
    private static DrownedNames crowded(String text) {
        DrownedNames x = Bench.ministry(text);
        x.image();
        for (int name = x.count(0) - 1; name > 0; name--) {
            for (int well = 0; well < x.count(1); well++) {
                if (x.name(name, 3) == Bench.NONE && (x.well(well, 1) == x.name(name, 2))
                        && x.well(well, 2) >= x.name(name, 0) * x.rule(0)) {
                    x.dip(name, well);
                }
            }
        }
        x.years(3);
        return x;
    }

    private static Object[] wild(Method method, Random random) {
        Class<?>[] kinds = method.getParameterTypes();
        Object[] values = new Object[kinds.length];
        for (int i = 0; i < values.length; i++) {
            // Half of them are small, so that some calls of many arguments are taken.
            int value = random.nextBoolean() ? random.nextInt(5) : WILD[random.nextInt(WILD.length)];
            if (kinds[i] == long.class) {
                values[i] = random.nextBoolean() ? (long) value : random.nextLong();
            } else {
                values[i] = value;
            }
        }
        return values;
    }

    private static void tryOut(DrownedNames x, Method method, Object[] values, String state) throws Exception {
        StringBuilder call = new StringBuilder(state).append(": ").append(method.getName());
        for (Object value : values) {
            call.append(' ').append(value);
        }
        String before = Sight.ofAll(x);
        String status = Sight.ofStatus(x);
        boolean thrown = false;
        Object answer = null;
        try {
            answer = method.invoke(x, values);
        } catch (InvocationTargetException e) {
            thrown = true;
            BENCH.due(call + " throws " + e.getCause(), e.getCause() instanceof NoSuchElementException, true);
        }
        boolean noName = method.getName().equals("name") && !isTold(x, (Integer) values[0], (Integer) values[1]);
        BENCH.due(call + " throws", thrown, noName);
        boolean refused = thrown || isRefused(method.getName(), answer);
        if (refused || ASKING.contains(method.getName())) {
            BENCH.due(call + " changes nothing", Sight.ofAll(x).equals(before), true);
        }
        boolean counted = refused && STATUS_KEEPING.contains(method.getName());
        BENCH.due(call + " is counted by STATUS", Sight.ofStatus(x).equals(status), !counted);
    }

    private static boolean isTold(DrownedNames x, int name, int what) {
        return name >= 0 && name < x.count(0) && what >= 0 && what <= 5;
    }

    private static boolean isRefused(String method, Object answer) {
        if (ASKING.contains(method)) {
            return false;
        }
        if (answer instanceof Boolean) {
            return !(Boolean) answer;
        }
        return (Integer) answer == (REFUSING_BY_MINUS_TWO.contains(method) ? -2 : Bench.NONE);
    }
}
