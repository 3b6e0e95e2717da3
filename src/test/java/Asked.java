import java.lang.reflect.InvocationTargetException;
import java.lang.reflect.Method;
import java.lang.reflect.Modifier;
import java.util.HashMap;
import java.util.Map;

/** One call, told as it is written ("lay(0, 3)"), so that it can be asked of several objects and shown when it is wrong. */
final class Asked {
    private static final Map<String, Method> CALLS = calls();

    private final String text;
    private final Method method;
    private final Object[] arguments;

    Asked(String text) {
        this.text = text;
        int open = text.indexOf('(');
        method = CALLS.get(text.substring(0, open));
        String inside = text.substring(open + 1, text.length() - 1).trim();
        String[] words = inside.isEmpty() ? new String[0] : inside.split(", *");
        arguments = new Object[words.length];
        for (int i = 0; i < words.length; i++) {
            boolean truth = words[i].equals("true") || words[i].equals("false");
            arguments[i] = truth ? (Object) Boolean.valueOf(words[i]) : (Object) Integer.valueOf(words[i]);
        }
    }

    private static Map<String, Method> calls() {
        Map<String, Method> all = new HashMap<>();
        for (Method method : SlantSheets.class.getDeclaredMethods()) {
            if (Modifier.isPublic(method.getModifiers())) {
                all.put(method.getName(), method);
            }
        }
        return all;
    }

    int of(SlantSheets x) {
        try {
            return (Integer) method.invoke(x, arguments);
        } catch (InvocationTargetException | IllegalAccessException e) {
            throw new IllegalStateException(text + " threw " + e.getCause(), e);
        }
    }

    /** z may be any int, so that what tells it is never a finding. */
    boolean tellsZ() {
        return text.startsWith("seed(") || text.equals("count(5)");
    }

    @Override
    public String toString() {
        return text;
    }
}
