import java.lang.reflect.InvocationTargetException;
import java.lang.reflect.Method;
import java.lang.reflect.Modifier;
import java.util.ArrayList;
import java.util.HashMap;
import java.util.List;
import java.util.Map;

/**
 * An object and the calls that a text tells: one a line, or several with ; between. A call is its name and its
 * arguments, "= answer" if one is due, "7 x" ahead of it if it is made seven times; LOW and HIGH are the least and
 * the greatest int. A line "tape n;r 1" feeds the bytes behind its first blank.
 */
final class Calls {
    /** What the document promises an object for. */
    static final int MOST_CALLS = 512;

    private static final Map<String, Method> METHODS = methods();

    private final VectorRounds object = new VectorRounds();
    private final List<String> faults = new ArrayList<>();
    private int made;

    private static Map<String, Method> methods() {
        Map<String, Method> found = new HashMap<>();
        for (Method m : VectorRounds.class.getDeclaredMethods()) {
            if (Modifier.isPublic(m.getModifiers())) {
                found.put(m.getName(), m);
            }
        }
        return found;
    }

    /** What was answered otherwise than it is due. */
    List<String> faults() {
        return faults;
    }

    /** Makes the calls of a text; their answers. */
    List<Integer> run(String text) {
        List<Integer> answers = new ArrayList<>();
        for (String line : text.split("\n")) {
            String call = line.strip();
            if (call.startsWith("tape ")) {
                for (char letter : call.substring(5).toCharArray()) {
                    answers.add(call("feed", letter));
                }
                continue;
            }
            for (String part : call.split(";")) {
                if (!part.isBlank()) {
                    made(part.strip(), answers);
                }
            }
        }
        return answers;
    }

    private void made(String call, List<Integer> answers) {
        int equals = call.indexOf('=');
        String[] words = (equals < 0 ? call : call.substring(0, equals)).strip().split(" +");
        int from = words.length > 2 && words[1].equals("x") ? 2 : 0;
        int times = from == 0 ? 1 : Integer.parseInt(words[0]);
        int[] args = new int[words.length - from - 1];
        for (int i = 0; i < args.length; i++) {
            args[i] = number(words[from + 1 + i]);
        }
        for (int i = 0; i < times; i++) {
            int answer = call(words[from], args);
            answers.add(answer);
            if (equals >= 0 && answer != number(call.substring(equals + 1).strip())) {
                faults.add(call + ", but answered " + answer);
            }
        }
    }

    static int number(String word) {
        switch (word) {
            case "LOW": return Integer.MIN_VALUE;
            case "HIGH": return Integer.MAX_VALUE;
            default: return Integer.parseInt(word);
        }
    }

    int call(String name, int... args) {
        made++;
        if (made == MOST_CALLS + 1) {
            faults.add("a test of more than " + MOST_CALLS + " calls");
        }
        Method m = METHODS.get(name);
        if (m == null || m.getParameterCount() != args.length) {
            faults.add("no such call: " + name + " of " + args.length);
            return 0;
        }
        Object[] boxed = new Object[args.length];
        for (int i = 0; i < args.length; i++) {
            boxed[i] = args[i];
        }
        try {
            return (Integer) m.invoke(object, boxed);
        } catch (InvocationTargetException thrown) {
            faults.add(name + java.util.Arrays.toString(args) + " threw " + thrown.getCause());
            return 0;
        } catch (IllegalAccessException hidden) {
            faults.add(name + " is not public");
            return 0;
        }
    }
}
