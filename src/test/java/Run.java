import java.lang.reflect.Method;
import java.util.HashMap;
import java.util.List;
import java.util.Map;

/** A run of calls on one new object; a call is written as the document writes it: "deed(0, 2, 15)". */
final class Run {
    // What later calls answer is free, so that no test may build on them.
    static final int MOST_CALLS = 512;

    private static final Map<String, Method> FACE = face();
    private static final Map<String, Object[]> ARGUMENTS = new HashMap<>();

    private final ThimbleLaw law = new ThimbleLaw();
    private int calls = 0;

    Run(List<String> lines) {
        for (String line : lines) {
            call(line);
        }
    }

    private static Map<String, Method> face() {
        Map<String, Method> face = new HashMap<>();
        for (Method method : ThimbleLaw.class.getDeclaredMethods()) {
            face.put(method.getName(), method);
        }
        return face;
    }

    /** A boolean answer counts 1 or 0. MIN and MAX are the least and the greatest int; "tape .." lays letters. */
    long call(String line) {
        if (line.startsWith("tape ")) {
            return lay(line.substring(5));
        }
        int open = line.indexOf('(');
        String name = open < 0 ? line : line.substring(0, open);
        Method method = FACE.get(name);
        if (method == null || !line.endsWith(")")) {
            throw new IllegalArgumentException("no call of the face: " + line);
        }
        return ask(method, ARGUMENTS.computeIfAbsent(line, Run::argumentsOf), line);
    }

    private long ask(Method method, Object[] arguments, String line) {
        count(1, line);
        try {
            Object answer = method.invoke(law, arguments);
            return answer instanceof Boolean yes ? (yes ? 1 : 0) : ((Number) answer).longValue();
        } catch (ReflectiveOperationException e) {
            throw new IllegalStateException(line + " threw " + e.getCause(), e);
        }
    }

    private void count(int more, String line) {
        calls += more;
        if (calls > MOST_CALLS) {
            throw new IllegalStateException(line + " is beyond the 512th call");
        }
    }

    private static Object[] argumentsOf(String line) {
        String inner = line.substring(line.indexOf('(') + 1, line.length() - 1);
        String[] words = inner.isEmpty() ? new String[0] : inner.split(", ");
        Object[] arguments = new Object[words.length];
        for (int i = 0; i < words.length; i++) {
            arguments[i] = argumentOf(words[i]);
        }
        return arguments;
    }

    private static Object argumentOf(String word) {
        switch (word) {
            case "true": return true;
            case "false": return false;
            case "MIN": return Integer.MIN_VALUE;
            case "MAX": return Integer.MAX_VALUE;
            default: return Integer.valueOf(word);
        }
    }

    private long lay(String letters) {
        count(2 + (letters.length() + 19) / 20, "tape");
        return Due.tape(law, letters) ? letters.length() : ThimbleLaw.NONE;
    }
}
