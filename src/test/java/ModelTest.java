import java.lang.reflect.InvocationTargetException;
import java.lang.reflect.Method;
import java.lang.reflect.Modifier;
import java.util.ArrayList;
import java.util.Arrays;
import java.util.Comparator;
import java.util.List;

/** Drawn runs of calls, each call asked of the class and of the model: the answers are the same. */
public final class ModelTest {
    private static final int RUNS = 600;
    private static final int[] EDGES = {Integer.MIN_VALUE, Integer.MAX_VALUE, -2, -1, 0, 1, 2, 3, 4, 5, 6, 7, 8, 9,
        10, 13, 14, 20, 21, 29, 30, 40, 41, 59, 60, 99, 100, 255, 256, 999, 1000, 1023, 1024, 99999, 100000,
        0x7ffffffd};
    private static final String[] NAMES = {"hard", "things", "mind", "lost", "day", "more"};

    private final List<Method> face = new ArrayList<>();
    private final int[] calls;
    private long state;
    private JudgesByLoss due;
    private Model model;
    private int wrong;
    private final StringBuilder log = new StringBuilder();

    private ModelTest() {
        for (Method method : JudgesByLoss.class.getDeclaredMethods()) {
            if (Modifier.isPublic(method.getModifiers())) {
                face.add(method);
            }
        }
        face.sort(Comparator.comparing(Method::getName));
        calls = new int[face.size()];
    }

    public static void main(String[] args) {
        ModelTest test = new ModelTest();
        int from = args.length > 0 ? Integer.parseInt(args[0]) : 1;
        int runs = args.length > 1 ? Integer.parseInt(args[1]) : RUNS;
        for (int seed = from; seed < from + runs && test.wrong < 5; seed++) {
            test.runOf(seed);
        }
        for (int i = 0; i < test.calls.length; i++) {
            if (test.calls[i] < runs / 2) {
                test.wrong++;
                System.out.println(test.face.get(i).getName() + " was called just " + test.calls[i] + " times");
            }
        }
        System.out.println(test.wrong == 0 ? "all answers are the model's" : test.wrong + " things are wrong");
        System.exit(test.wrong == 0 ? 0 : 1);
    }

    /** A number below n, by an own rule, so that each run can be had again. */
    private int draw(int n) {
        state = state * 6364136223846793005L + 1442695040888963407L;
        return (int) ((state >>> 33) % n);
    }

    private void runOf(int seed) {
        state = seed * 7919L;
        draw(2);
        due = new JudgesByLoss();
        model = new Model();
        log.setLength(0);
        int before = wrong;
        int made = 0;
        if (draw(4) > 0) {
            made += build();
        }
        for (int i = made; i < 300 && wrong == before; i++) {
            int kind = draw(12);
            if (kind == 0 && i < 200) {
                i += feedText(drawnText());
            } else if (kind == 1) {
                call("judge", draw(60), drawnSet(), draw(100));
            } else if (kind == 2) {
                call("file", 1 + drawnSet() % 1023, draw(4) > 0 ? draw(40) : draw(100));
            } else if (kind == 3) {
                call("film", draw(4), draw(21));
            } else {
                any(face.get(draw(face.size())));
            }
        }
    }

    private int build() {
        int judges = draw(7);
        for (int i = 0; i < judges; i++) {
            call("judge", draw(60), drawnSet(), draw(100));
        }
        int cases = draw(9);
        for (int i = 0; i < cases; i++) {
            call("file", 1 << draw(10) | 1 << draw(10) | (draw(3) == 0 ? 1 << draw(10) : 0), draw(60));
        }
        call("film", 0, 20);
        return judges + cases + 1;
    }

    private int drawnSet() {
        int set = draw(1024);
        return draw(2) == 0 ? set | draw(1024) : set;
    }

    private void any(Method method) {
        int[] args = new int[method.getParameterCount()];
        for (int i = 0; i < args.length; i++) {
            args[i] = argument(method.getName(), i);
        }
        call(method.getName(), args);
    }

    private int argument(String name, int i) {
        if (draw(40) == 0) {
            return EDGES[draw(EDGES.length)];
        }
        int[] bounds = bounds(name);
        int bound = bounds[Math.min(i, bounds.length - 1)];
        if (draw(30) == 0) {
            return draw(2) == 0 ? -1 : bound;
        }
        return draw(bound);
    }

    /** How many numbers from 0 on each argument is mostly one of. */
    private static int[] bounds(String name) {
        switch (name) {
            case "count": return new int[] {7};
            case "dawn": return new int[] {1000};
            case "feed": return new int[] {6, 128};
            case "force": return new int[] {4};
            case "asks": return new int[] {3, 6, 8};
            case "judge": return new int[] {60, 1024, 100};
            case "file": return new int[] {1024, 100};
            case "put": return new int[] {6, 3, 100};
            case "told": return new int[] {6, 6};
            case "paper": return new int[] {8, 4};
            case "hearing": return new int[] {6, 8, 3};
            case "hear": return new int[] {6, 8};
            case "rob": return new int[] {6, 1024};
            case "run": return new int[] {41, 27};
            case "when": return new int[] {9};
            case "burglary": return new int[] {41, 2};
            case "wants": return new int[] {6, 8, 2};
            case "kinds": return new int[] {4, 6, 2};
            case "turned": return new int[] {4, 6};
            case "states": return new int[] {4, 6, 3, 2};
            case "film": return new int[] {4, 21};
            case "drawn": return new int[] {100000, 2};
            case "odds": return new int[] {100000, 41, 9, 2};
            case "sheet": return new int[] {4, 3, 25};
            case "cell": return new int[] {4, 25, 1024};
            case "copy": return new int[] {4, 12, 4, 12, 12};
            case "judgesBy": return new int[] {4, 3, 12, 7};
            case "taken": return new int[] {14, 7};
            case "tells": case "dropped": case "laws": return new int[] {4};
            default: return new int[] {2};
        }
    }

    private void call(String name, int... args) {
        for (int m = 0; m < face.size(); m++) {
            Method method = face.get(m);
            if (!method.getName().equals(name)) {
                continue;
            }
            calls[m]++;
            Object[] boxed = new Object[args.length];
            for (int i = 0; i < args.length; i++) {
                boxed[i] = args[i];
            }
            log.append(name).append(Arrays.toString(args)).append('\n');
            try {
                Object got = method.invoke(due, boxed);
                Object want = Model.class.getMethod(name, method.getParameterTypes()).invoke(model, boxed);
                if (!got.equals(want)) {
                    wrong++;
                    System.out.println(log + "answered " + got + ", the model " + want);
                }
            } catch (InvocationTargetException e) {
                wrong++;
                System.out.println(log + "threw " + e.getCause());
            } catch (ReflectiveOperationException e) {
                throw new IllegalStateException(e);
            }
        }
    }

    // ---- texts

    private int feedText(String text) {
        int fed = 0;
        for (int i = 0; i < text.length(); i += 5) {
            int[] args = {Math.min(5, text.length() - i), 0, 0, 0, 0, 0};
            for (int k = 0; k < args[0]; k++) {
                args[k + 1] = text.charAt(i + k);
            }
            call("feed", args);
            fed++;
        }
        call("text");
        if (draw(2) == 0) {
            call("force", draw(6));
        }
        return fed + 1;
    }

    private String drawnText() {
        StringBuilder text = new StringBuilder();
        text.append("needs ").append(e(3)).append(";takes ").append(e(2)).append(";judges ").append(e(2)).append(';');
        if (draw(3) == 0) {
            spoil(text);
        }
        if (text.length() > 160 && draw(4) > 0) {
            return "needs " + e(1) + ";takes " + e(1) + "; judges " + e(1) + " ; ";
        }
        return text.toString();
    }

    private void spoil(StringBuilder text) {
        int at = draw(text.length());
        String[] bits = {"(", ")", ";", "+", "-", "*", "<", "=", " ", "\n", "not ", " or ", " and ", "12345", "9999",
            "x", "A", "\t", "needs", "mind", "((((((", "------", "not not not not not not ", "\u00e9", "0", " hard"};
        switch (draw(4)) {
            case 0: text.deleteCharAt(at); break;
            case 1: text.setLength(at); break;
            case 2: text.setCharAt(at, bits[draw(10)].charAt(0)); break;
            default: text.insert(at, bits[draw(bits.length)]); break;
        }
    }

    private String e(int depth) {
        int kind = depth == 0 ? draw(2) : draw(12);
        switch (kind) {
            case 0: return Integer.toString(draw(3) == 0 ? draw(10000) : draw(100));
            case 1: return NAMES[draw(6)];
            case 2: return e(depth - 1) + " or " + e(depth - 1);
            case 3: return e(depth - 1) + " and " + e(depth - 1);
            case 4: return "not " + e(depth - 1);
            case 5: return e(depth - 1) + "<" + e(depth - 1);
            case 6: return e(depth - 1) + "=" + e(depth - 1);
            case 7: return e(depth - 1) + "+" + e(depth - 1);
            case 8: return e(depth - 1) + " - " + e(depth - 1);
            case 9: return e(depth - 1) + "*" + e(depth - 1);
            case 10: return "-" + e(depth - 1);
            default: return "(" + e(depth - 1) + ")";
        }
    }
}
