import java.lang.reflect.InvocationTargetException;
import java.lang.reflect.Method;
import java.lang.reflect.Modifier;
import java.util.Map;
import java.util.TreeMap;

/** Makes a call as it is written, put(0, 12, 77) say, so that what is told of it can't be another one than what was made. */
final class Calls {
    private static final Map<String, Method> BY_NAME = new TreeMap<>();

    static {
        for (Method method : AloneTogether.class.getDeclaredMethods()) {
            if (Modifier.isPublic(method.getModifiers())) BY_NAME.put(method.getName(), method);
        }
    }

    private Calls() {
    }

    static long answer(AloneTogether x, String call) {
        int opens = call.indexOf('(');
        String inside = call.substring(opens + 1, call.length() - 1).trim();
        String[] written = inside.isEmpty() ? new String[0] : inside.split(",");
        Object[] numbers = new Object[written.length];
        for (int i = 0; i < numbers.length; i++) numbers[i] = number(written[i].trim());
        try {
            return ((Number) BY_NAME.get(call.substring(0, opens)).invoke(x, numbers)).longValue();
        } catch (IllegalAccessException | InvocationTargetException thrown) {
            throw new IllegalStateException(call + " threw", thrown);
        }
    }

    /** MIN and MAX stand for the ends of an int. */
    private static int number(String written) {
        if (written.equals("MIN")) return Integer.MIN_VALUE;
        return written.equals("MAX") ? Integer.MAX_VALUE : Integer.parseInt(written);
    }
}
