import java.lang.reflect.InvocationTargetException;
import java.lang.reflect.Method;
import java.lang.reflect.Modifier;
import java.util.Arrays;
import java.util.Comparator;
import java.util.List;

/** All promises: long runs of calls, of which the class and the model must answer each alike. */
final class ModelTest {

    private static final int RUNS = 1500;
    private static final int CALLS = 512;
    private static final int[] EDGES = {Integer.MIN_VALUE, -1000, -999, -2, -1, 0, 1, 2, 3, 7, 8, 15, 16, 24, 25, 31, 32,
        40, 41, 63, 64, 90, 91, 999, 1000, 9999, 10000, 10006, 10007, Integer.MAX_VALUE};
    private static final List<String> CHANGES = List.of("put", "put", "put", "put", "put", "put", "put", "put",
            "remove", "remove", "remove", "setKind", "setSeed", "setLimit", "rebuild", "undo", "undo", "save", "restore");
    private static final String[] SCRAPS = {"put ", "remove ", "kind ", "limit ", "seed ", "rebuild", "clear", ";", ";",
        "=", "=-", "-", "l", "t", "d", "7", "12", "345", "6789", " ", "x", "re", "\u0000"};

    private static final Method[] METHODS = HashLab.class.getDeclaredMethods();

    private static long state = 1;

    public static void main(String[] args) throws Exception {
        Arrays.sort(METHODS, Comparator.comparing(Method::getName));
        for (int run = 0; run < RUNS; run++) {
            compareRun(run);
        }
        Check.end();
    }

    private static int next(int bound) {
        state = state * 6364136223846793005L + 1442695040888963407L;
        return (int) ((state >>> 33) % bound);
    }

    private static void compareRun(int run) throws Exception {
        HashLab lab = new HashLab();
        Model model = new Model();
        String typed = "";
        boolean isTyping = false;
        for (int call = 0; call < CALLS; call++) {
            if (!isTyping && next(60) == 0) {
                typed = text(run);
                isTyping = true;
            }
            Method method = choose(run);
            Object[] arguments = arguments(method, run);
            if (isTyping) {
                isTyping = !typed.isEmpty();
                method = method(isTyping ? "type" : "run");
                arguments = isTyping ? new Object[] {typed.charAt(0)} : new Object[0];
                typed = isTyping ? typed.substring(1) : typed;
            }
            String what = "run " + run + " call " + call + " " + method.getName() + Arrays.toString(arguments);
            String due = answer(Model.class.getMethod(method.getName(), method.getParameterTypes()), model, arguments);
            Check.equal(what, answer(method, lab, arguments), due);
        }
    }

    private static Method method(String name) {
        for (Method method : METHODS) {
            if (method.getName().equals(name)) {
                return method;
            }
        }
        throw new IllegalStateException(name);
    }

    private static Method choose(int run) {
        if (next(2) == 0) {
            return method(CHANGES.get(next(run % 3 == 0 ? 11 : CHANGES.size())));
        }
        while (true) {
            Method method = METHODS[next(METHODS.length)];
            boolean isPublic = Modifier.isPublic(method.getModifiers());
            if (isPublic && !(method.getName().equals("clear") && next(4) > 0)) {
                return method;
            }
        }
    }

    private static Object[] arguments(Method method, int run) {
        Object[] arguments = new Object[method.getParameterCount()];
        for (int index = 0; index < arguments.length; index++) {
            arguments[index] = method.getParameterTypes()[index] == char.class
                    ? (Object) (char) next(128) : (Object) argument(method.getName(), index, run);
        }
        return arguments;
    }

    private static int argument(String method, int index, int run) {
        if (next(25) == 0) {
            return EDGES[next(EDGES.length)];
        }
        switch (method) {
            case "setKind":
                return next(3);
            case "setLimit":
                return run % 3 == 0 ? 80 + next(11) : 25 + next(66);
            case "setSeed":
                return next(1000);
            case "trial":
                return index == 0 ? next(3) : index == 1 ? next(10007) : 1 + next(40);
            case "bestKind":
                return index == 0 ? next(10007) : 1 + next(40);
            case "charAt":
                return next(70);
            case "isFull", "isTombstone", "keyIn", "clusterSize", "keyAt":
                return next(next(2) == 0 ? 8 : 64);
            default:
                return index == 1 ? (method.equals("probe") ? next(64) : next(1999) - 999) : key(run);
        }
    }

    private static int key(int run) {
        int some = next(run % 2 == 0 ? 30 : 90);
        return run % 4 < 2 ? 64 * some : next(10) == 0 ? next(10000) : some;
    }

    private static String text(int run) {
        StringBuilder text = new StringBuilder();
        int commands = 1 + next(5);
        for (int index = 0; index < commands; index++) {
            text.append(index == 0 ? "" : ";").append(command(run));
        }
        for (int faults = next(3); faults > 1; faults--) {
            int place = next(text.length() + 1);
            text.insert(place, SCRAPS[next(SCRAPS.length)]);
        }
        if (next(8) == 0) {
            text.setLength(next(text.length() + 1));
        }
        if (next(8) == 0) {
            text.setLength(0);
            for (int scraps = next(9); scraps > 0; scraps--) {
                text.append(SCRAPS[next(SCRAPS.length)]);
            }
        }
        return text.length() > 60 ? text.substring(0, 60) : text.toString();
    }

    private static String command(int run) {
        switch (next(9)) {
            case 0:
                return "remove " + key(run);
            case 1:
                return "kind " + "ltd".charAt(next(3));
            case 2:
                return "limit " + (next(4) == 0 ? next(1000) : 25 + next(66));
            case 3:
                return "seed " + next(1000);
            case 4:
                return next(3) == 0 ? "clear" : "rebuild";
            default:
                return "put " + key(run) + "=" + (next(1999) - 999);
        }
    }

    private static String answer(Method method, Object target, Object[] arguments) throws Exception {
        try {
            return String.valueOf(method.invoke(target, arguments));
        } catch (InvocationTargetException thrown) {
            return "throws." + thrown.getCause().getClass().getName();
        }
    }
}
