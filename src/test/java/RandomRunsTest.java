import java.lang.reflect.InvocationTargetException;
import java.lang.reflect.Method;
import java.lang.reflect.Modifier;
import java.util.ArrayList;
import java.util.Arrays;
import java.util.List;
import java.util.Map;
import java.util.TreeMap;

/** Long runs of calls drawn from a fixed seed, each answered by the program and by the model alike. */
public final class RandomRunsTest {
    private static final int CALLS = 400;
    private static final String[] ACTS = {"days", "write", "write", "write", "strike", "tread", "lend", "lend", "pay",
        "slope", "snow", "snow", "seed", "undo", "undo", "image", "back", "days", "days"};

    private static final Map<String, Method> PROGRAM = callsOf(SnowNames.class);
    private static final Map<String, Method> MODEL = callsOf(Model.class);

    private final Draws draws;
    private final SnowNames program = new SnowNames();
    private final Model model = new Model();
    private final List<String> told = new ArrayList<>();
    private boolean wrong = false;

    private RandomRunsTest(long seed) {
        draws = new Draws(seed);
    }

    public static void main(String[] args) throws ReflectiveOperationException {
        int runs = args.length > 0 ? Integer.parseInt(args[0]) : 60;
        int begin = args.length > 1 ? Integer.parseInt(args[1]) : 0;
        for (int run = begin; run < begin + runs; run++) {
            RandomRunsTest test = new RandomRunsTest(run);
            test.go();
            if (test.wrong) {
                System.out.println("in run " + run);
                System.exit(1);
            }
        }
        System.out.println(runs + " random runs are as the model's");
    }

    private void go() throws ReflectiveOperationException {
        List<Method> face = new ArrayList<>(PROGRAM.values());
        tell("province", new Texts(draws).province(0, 0));
        for (int i = 0; i < CALLS && !wrong; i++) {
            int sort = draws.below(100);
            if (sort < 4) {
                tell("province", new Texts(draws).province(program.count(0), program.count(1)));
            } else if (sort < 9) {
                tell("law", new Texts(draws).law());
            } else if (sort < 15) {
                tell(draws.oneOf("who", "likely", "look"), rows());
            } else if (sort < 45) {
                act(draws.oneOf(ACTS));
            } else {
                Method m = face.get(draws.below(face.size()));
                if (m.getName().equals("days") || m.getName().equals("back")) {
                    continue;
                }
                call(m.getName(), arguments(m));
            }
            lookAtAll();
        }
    }

    private String rows() {
        StringBuilder b = new StringBuilder();
        int n = draws.below(20) == 0 ? draws.below(25) : draws.below(4);
        String name = draws.oneOf("abc", "abcdef", "ab", "a", "hhh");
        for (int i = 0; i < n; i++) {
            int place = draws.below(6);
            b.append((char) (draws.below(60) == 0 ? 6 : place));
            b.append((char) (place < name.length() && draws.below(4) > 0 ? name.charAt(place) - 'a' : draws.below(8)));
        }
        if (draws.below(30) == 0) {
            b.append((char) draws.below(9));
        }
        return b.toString();
    }

    private void act(String name) throws ReflectiveOperationException {
        Object[] args = arguments(PROGRAM.get(name));
        if (name.equals("days") && draws.below(4) > 0) {
            args[0] = 1 + draws.below(3);
        }
        call(name, args);
    }

    private Object[] arguments(Method m) {
        Object[] args = new Object[m.getParameterCount()];
        for (int i = 0; i < args.length; i++) {
            if (m.getParameterTypes()[i] == boolean.class) {
                args[i] = draws.below(2) == 0;
            } else {
                int sort = draws.below(100);
                args[i] = sort < 70 ? draws.below(6) : sort < 80 ? draws.below(10) : sort < 90 ? draws.below(104) - 2
                        : sort < 96 ? -1 : sort < 98 ? draws.below(Integer.MAX_VALUE)
                        : draws.oneOf(Integer.MIN_VALUE, Integer.MAX_VALUE, -2, 1 << 30);
            }
        }
        return args;
    }

    /** Feeds a text by twenties, cuts it to its length and has it read. */
    private void tell(String call, String text) throws ReflectiveOperationException {
        call("end", 0);
        for (int i = 0; i < text.length(); i += 20) {
            Object[] args = new Object[5];
            for (int k = 0; k < 5; k++) {
                int n = 0;
                for (int j = 0; j < 4; j++) {
                    int at = i + 4 * k + j;
                    n = n << 8 | (at < text.length() ? text.charAt(at) : draws.below(256));
                }
                args[k] = n;
            }
            call("feed", args);
        }
        call("end", text.length());
        told.add("the tape: " + text);
        call(call);
        call("fault");
    }

    private void lookAtAll() throws ReflectiveOperationException {
        for (int what = 0; what < 13; what++) {
            call("count", what);
        }
        for (int f = 0; f < program.count(0); f++) {
            for (int what = 0; what < 5; what++) {
                call("field", f, what);
            }
        }
        for (int p = 0; p < program.count(1); p++) {
            for (int what = 0; what < 9; what++) {
                if (what != 5 && what != 6) {
                    call("person", p, what);
                }
            }
            for (int k = 0; k < 6; k++) {
                for (int what = 0; what < 4; what++) {
                    call("letter", p, k, what);
                }
            }
        }
        for (int d = 0; d < program.count(2); d++) {
            for (int what = 0; what < 3; what++) {
                call("debt", d, what);
            }
        }
        for (int ago = 0; ago < program.count(11); ago++) {
            for (int what = 0; what < 4; what++) {
                call("log", ago, what);
            }
        }
    }

    private void call(String name, Object... args) throws ReflectiveOperationException {
        if (wrong) {
            return;
        }
        String got = answer(program, name, args);
        String due = answer(model, name, args);
        told.add(name + Arrays.toString(args) + " => " + got);
        if (!got.equals(due)) {
            wrong = true;
            for (String line : told.subList(Math.max(0, told.size() - 400), told.size())) {
                System.out.println(line);
            }
            System.out.println("due is " + due);
        }
    }

    private static String answer(Object on, String name, Object[] args) throws ReflectiveOperationException {
        Method m = (on instanceof SnowNames ? PROGRAM : MODEL).get(name);
        try {
            return String.valueOf(m.invoke(on, args));
        } catch (InvocationTargetException e) {
            return e.getCause().getClass().getName();
        }
    }

    /** The public calls of the program, or those of the same names and numbers of arguments of the model. */
    private static Map<String, Method> callsOf(Class<?> of) {
        Map<String, Method> calls = new TreeMap<>();
        for (Method face : SnowNames.class.getDeclaredMethods()) {
            for (Method m : of.getDeclaredMethods()) {
                if (Modifier.isPublic(face.getModifiers()) && m.getName().equals(face.getName())
                        && Arrays.equals(m.getParameterTypes(), face.getParameterTypes())) {
                    calls.put(m.getName(), m);
                }
            }
        }
        return calls;
    }
}
