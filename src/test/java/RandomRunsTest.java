import java.lang.reflect.InvocationTargetException;
import java.lang.reflect.Method;
import java.lang.reflect.Modifier;
import java.util.ArrayList;
import java.util.Comparator;
import java.util.List;

/**
 * Promises 1 to 54 in many runs of up to 512 calls: every answer is compared with the model's.
 * The runs are the same each time: their numbers come from a fixed series.
 */
public final class RandomRunsTest {
    private static final int RUNS = 2000;
    private static final int CALLS = 512;
    private static final String[] CHANGES = {"addPhase", "addPhase", "removePhase", "start", "start", "stop", "run",
        "run", "run", "load", "load", "press", "press", "press", "gradePat", "gradePat", "crush", "undo",
        "saveSnapshot", "restoreSnapshot", "text", "text", "text"};
    private static final String[] WARM_CHANGES = {"addPhase", "removePhase", "start", "start", "start", "stop", "run",
        "run", "run", "run", "run", "load", "press", "press", "press", "press", "gradePat", "gradePat", "gradePat",
        "crush", "undo", "undo", "saveSnapshot", "restoreSnapshot", "text"};
    private static final int[] FAR = {-1, 0, 13, 30, 31, 60, 100, 101, 240, 241, 999, Integer.MAX_VALUE,
        Integer.MIN_VALUE};

    private static long series;
    private static int wrong = 0;
    private static long answers = 0;

    private RandomRunsTest() {
    }

    public static void main(String[] args) {
        List<Method> face = face();
        for (int run = 0; run < RUNS && wrong < 20; run++) {
            series = 7919L * run + 1;
            oneRun(run, face);
        }
        System.out.println("RandomRunsTest: " + answers + " answers, " + wrong + " wrong");
        if (wrong != 0) {
            System.exit(1);
        }
    }

    private static List<Method> face() {
        List<Method> face = new ArrayList<>();
        for (Method method : StoneChurn.class.getDeclaredMethods()) {
            if (Modifier.isPublic(method.getModifiers())) {
                face.add(method);
            }
        }
        face.sort(Comparator.comparing(Method::getName));
        if (face.size() != 53) {
            wrong++;
            System.out.println("the face has " + face.size() + " methods");
        }
        return face;
    }

    private static int below(int bound) {
        series = series * 6364136223846793005L + 1442695040888963407L;
        return (int) ((series >>> 33) % bound);
    }

    private static void oneRun(int run, List<Method> face) {
        StoneChurn x = new StoneChurn();
        Model model = new Model();
        // some runs never restore what lies far back, so that they come far
        boolean forward = run % 2 == 0;
        // others begin with a churn that is turned while it is warm or hot: few do by chance
        boolean warm = run % 4 >= 2;
        String[] changes = warm ? WARM_CHANGES : CHANGES;
        int made = warm ? warmUp(run, x, model, face) : 0;
        while (made < CALLS && wrong < 20) {
            String name = below(2) == 0 ? changes[below(changes.length)] : face.get(below(face.size())).getName();
            if (name.equals("text")) {
                made = oneText(run, made, x, model, face);
            } else if (!forward || !name.equals("restoreSnapshot")) {
                oneCall(run, made++, x, model, method(face, name));
            }
        }
    }

    /** Returns the number of calls that it has made. */
    private static int warmUp(int run, StoneChurn x, Model model, List<Method> face) {
        int made = 0;
        compare(run, made++, x, model, method(face, "load"), ' ', 50 + below(51), 0);
        for (int i = 0; i < 3; i++) {
            // by about 40 to 200 degrees, then up to 100 of smoothness, or of stress where it is too hot
            compare(run, made++, x, model, method(face, "addPhase"), 'h', 4 + below(6), 2 + below(4));
            compare(run, made++, x, model, method(face, "addPhase"), 't', 5 + below(26), 1 + below(5));
        }
        compare(run, made++, x, model, method(face, "addPhase"), "cr".charAt(below(2)), 1 + below(30), 1 + below(5));
        compare(run, made++, x, model, method(face, "start"), ' ', 0, 0);
        compare(run, made++, x, model, method(face, "run"), ' ', 20 + below(60), 0);
        return made;
    }

    /** Feeds a text and, but for some that are left to the next one, executes it; returns the number of calls. */
    private static int oneText(int run, int before, StoneChurn x, Model model, List<Method> face) {
        String text = text();
        int made = before;
        for (int i = 0; i < text.length() && made < CALLS - 1; i++) {
            compare(run, made++, x, model, method(face, "feed"), text.charAt(i), 0, 0);
        }
        if (below(8) > 0) {
            compare(run, made++, x, model, method(face, "execute"), ' ', 0, 0);
        }
        return made;
    }

    private static Method method(List<Method> face, String name) {
        for (Method method : face) {
            if (method.getName().equals(name)) {
                return method;
            }
        }
        throw new AssertionError(name);
    }

    private static void oneCall(int run, int number, StoneChurn x, Model model, Method call) {
        String name = call.getName();
        char c = name.equals("gradedCount") ? (char) ('a' + below(6)) : "hctrhctrhctrhctrx".charAt(below(17));
        int a;
        switch (name) {
            case "addPhase": a = 1 + below(below(8) == 0 ? 30 : 10); break;
            case "run": a = 1 + below(below(8) == 0 ? 240 : 20); break;
            case "load": a = 1 + below(below(2) == 0 ? 100 : 30); break;
            case "press": a = 1 + below(below(2) == 0 ? 20 : 4); break;
            case "temperatureAfter": case "smoothnessAfter": a = below(241); break;
            case "lineCharacter": a = below(20); break;
            case "phaseKind": case "phaseMinutes": case "removePhase": a = below(8); break;
            default: a = below(Math.max(1, (int) model.answer("patCount", ' ', 0, 0) + below(2))); break;
        }
        if (below(20) == 0) {
            a = FAR[below(FAR.length)];
        }
        int b = below(20) == 0 ? FAR[below(FAR.length)] : 1 + below(5);
        compare(run, number, x, model, call, c, a, b);
    }

    private static void compare(int run, int number, StoneChurn x, Model model, Method call, char c, int a, int b) {
        answers++;
        Object got = Due.outcome(() -> invoke(x, call, c, a, b));
        Object want;
        try {
            want = model.answer(call.getName(), c, a, b);
        } catch (Model.Denied e) {
            want = "UnsupportedOperationException";
        } catch (RuntimeException e) {
            want = e.getClass().getSimpleName();
        }
        if (!want.equals(got)) {
            wrong++;
            System.out.println("run " + run + ", call " + number + ": " + call.getName() + "(" + c + ", " + a + ", " + b
                    + ") answered " + got + ", due is " + want);
        }
    }

    private static Object invoke(StoneChurn x, Method call, char c, int a, int b) {
        Object[] arguments = new Object[call.getParameterCount()];
        int numbers = 0;
        for (int i = 0; i < arguments.length; i++) {
            if (call.getParameterTypes()[i] == char.class) {
                arguments[i] = c;
            } else {
                arguments[i] = numbers == 0 ? a : b;
                numbers++;
            }
        }
        try {
            return call.invoke(x, arguments);
        } catch (InvocationTargetException e) {
            throw (RuntimeException) e.getCause();
        } catch (IllegalAccessException e) {
            throw new AssertionError(e);
        }
    }

    /** A text of the grammar, and now and then one with a sign changed, doubled or left out. */
    private static String text() {
        StringBuilder text = new StringBuilder(command());
        for (int more = below(5); more > 0; more--) {
            text.append(';').append(command());
        }
        text.setLength(Math.min(text.length(), below(10) == 0 ? 62 : 60));
        if (below(3) == 0) {
            int place = below(text.length());
            switch (below(3)) {
                case 0: text.setCharAt(place, ";; 019:/hstcxp".charAt(below(14))); break;
                case 1: text.insert(place, text.charAt(place)); break;
                default: text.deleteCharAt(place); break;
            }
        }
        if (below(10) == 0) {
            text.setLength(below(text.length() + 1));
        }
        return text.toString();
    }

    private static String command() {
        switch (below(12)) {
            case 0: case 1: return "phase " + "hctr".charAt(below(4)) + " " + below(32) + " " + below(7);
            case 2: return "cut " + below(4);
            case 3: return "load " + below(40);
            case 4: case 5: return "start";
            case 6: return "stop";
            case 7: case 8: return "run " + below(below(4) == 0 ? 260 : 30);
            case 9: return "press " + below(22);
            case 10: return "grade " + below(4);
            default: return "crush " + (below(2) == 0 ? "00" : "") + below(4);
        }
    }
}
