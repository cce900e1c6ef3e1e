import java.lang.reflect.InvocationTargetException;
import java.lang.reflect.Method;
import java.util.HashMap;
import java.util.HashSet;
import java.util.Map;
import java.util.Set;

/** A run of calls on one new object, each told as text, with the answer that is due. */
final class Run {
    static final int UNKNOWN = -1, OUTSIDE = -2, STATE = -3, FULL = -4, NONE = -9;

    private static final int MOST_CALLS = 512;
    private static final Map<String, Method> FACE = new HashMap<>();
    private static final Set<String> CASES = new HashSet<>();

    private static String sentence = "";
    private static int wrong = 0;

    private final LetterDays object = new LetterDays();
    private int calls = 0;

    static {
        for (Method method : LetterDays.class.getMethods()) {
            if (method.getDeclaringClass() == LetterDays.class) {
                FACE.put(method.getName(), method);
            }
        }
    }

    /** What the runs from here on test: words of the document, or a short form of them. */
    static void sentence(String words) {
        sentence = words;
        CASES.add(words);
    }

    static void fault(String what) {
        wrong++;
        System.out.println("'" + sentence + "': " + what);
    }

    static void end() {
        System.out.println(wrong == 0 ? CASES.size() + " cases hold" : wrong + " answers are not as due");
        if (wrong != 0) {
            System.exit(1);
        }
    }

    /** Calls that prepare a run: none of them may be refused. */
    Run does(String... made) {
        for (String call : made) {
            int got = ask(call);
            if (got < 0) {
                fault(call + " answered " + got + ", but was to be taken");
            }
        }
        return this;
    }

    Run due(String call, int want) {
        int got = ask(call);
        if (got != want) {
            fault(call + " answered " + got + ", due is " + want);
        }
        return this;
    }

    /** The same call with the numbers from 0 on as its last one, an answer for each. */
    Run row(String start, int... wants) {
        for (int k = 0; k < wants.length; k++) {
            due(start + k + ")", wants[k]);
        }
        return this;
    }

    int ask(String call) {
        calls++;
        if (calls > MOST_CALLS) {
            fault(call + " is beyond the calls of an object: the test is wrong");
        }
        int open = call.indexOf('(');
        Method method = FACE.get(call.substring(0, open));
        try {
            return (Integer) method.invoke(object, numbers(method, call.substring(open + 1, call.length() - 1)));
        } catch (InvocationTargetException thrown) {
            fault(call + " threw " + thrown.getCause());
            return Integer.MIN_VALUE;
        } catch (IllegalAccessException hidden) {
            throw new IllegalStateException(call, hidden);
        }
    }

    private static Object[] numbers(Method method, String text) {
        Class<?>[] types = method.getParameterTypes();
        String[] parts = text.isEmpty() ? new String[0] : text.split(", ");
        Object[] numbers = new Object[types.length];
        for (int k = 0; k < types.length; k++) {
            if (types[k] == boolean.class) {
                numbers[k] = Boolean.valueOf(parts[k]);
            } else {
                numbers[k] = number(parts[k]);
            }
        }
        return numbers;
    }

    private static Integer number(String text) {
        switch (text) {
            case "MIN": return Integer.MIN_VALUE;
            case "MAX": return Integer.MAX_VALUE;
            default: return Integer.valueOf(text);
        }
    }

    /** All that can be asked but for single days: 241 calls. */
    String all() {
        StringBuilder told = new StringBuilder();
        tell(told, "agree()", "orders()", "core()", "best()", "knot(0)", "knot(1)");
        for (int k = 0; k < 8; k++) {
            tell(told, "left(" + k + ")", "worst(" + k + ")", "order(" + k + ")");
            for (int what = 0; what < 2; what++) {
                tell(told, "day(" + k + ", " + what + ")", "ahead(" + k + ", " + what + ")");
            }
            for (int b = 0; b < 8; b++) {
                if (b != k) {
                    tell(told, "gap(" + k + ", " + b + ")");
                }
            }
            for (int what = 0; what < 4; what++) {
                tell(told, "ofLetter(" + k + ", " + what + ")");
            }
            for (int bundle = 0; bundle < 3; bundle++) {
                tell(told, "lies(" + bundle + ", " + k + ")");
            }
        }
        for (int n = 0; n < 10; n++) {
            for (int what = 0; what < 6; what++) {
                tell(told, "ofNote(" + n + ", " + what + ")");
            }
        }
        for (int what = 0; what < 7; what++) {
            tell(told, "many(" + what + ")");
        }
        return told.toString();
    }

    private void tell(StringBuilder told, String... asked) {
        for (String call : asked) {
            told.append(call).append(' ').append(ask(call)).append('\n');
        }
    }
}
