import java.lang.reflect.InvocationTargetException;
import java.lang.reflect.Method;
import java.util.Arrays;
import java.util.Comparator;
import java.util.Random;

/** Any calls, with any numbers, in any order: none throws, and a call that was refused changes nothing. */
public final class AnyCallTest {
    private static final Check CHECK = new Check("AnyCallTest");
    private static final int OBJECTS = 300, CALLS = 400;
    private static final int[] FAR = {Integer.MIN_VALUE, Integer.MIN_VALUE + 1, -65536, -100, -2, -1, 6, 11, 12, 13, 17, 18, 40,
        41, 59, 60, 100, 111, 112, 255, 256, 4095, 4096, 9999, 10000, 99999, 100000, 65536, Integer.MAX_VALUE - 1, Integer.MAX_VALUE};
    private static final String TAPE = "counts mine*his;pays 9-more;sees hour or (not term<2);";

    public static void main(String[] args) throws IllegalAccessException {
        Method[] calls = Arrays.stream(AloneTogether.class.getDeclaredMethods())
            .filter(method -> java.lang.reflect.Modifier.isPublic(method.getModifiers()))
            .sorted(Comparator.comparing(Method::getName)).toArray(Method[]::new);
        Random chance = new Random(7);
        for (int i = 0; i < OBJECTS; i++) {
            AloneTogether x = new AloneTogether();
            if (chance.nextBoolean()) Check.feed(x, TAPE.substring(0, TAPE.length() - chance.nextInt(2) * chance.nextInt(40)));
            for (int j = 0; j < CALLS; j++) call(x, calls[chance.nextInt(calls.length)], chance);
        }
        CHECK.end();
    }

    private static void call(AloneTogether x, Method method, Random chance) throws IllegalAccessException {
        Object[] numbers = new Object[method.getParameterCount()];
        for (int i = 0; i < numbers.length; i++) {
            numbers[i] = chance.nextInt(8) == 0 ? FAR[chance.nextInt(FAR.length)] : chance.nextInt(chance.nextInt(4) == 0 ? 60 : 5);
        }
        String call = method.getName() + Arrays.toString(numbers);
        long before = state(x);
        try {
            long answer = ((Number) method.invoke(x, numbers)).longValue();
            // By a FAULT THE TAPE is empty; menBy leaves those who stood ahead of the end.
            boolean refused = answer < 0 && answer > -100 && !call.startsWith("menBy");
            if (refused || answer == AloneTogether.NO) CHECK.due(call + " changes nothing", state(x), before);
        } catch (InvocationTargetException thrown) {
            CHECK.due(call + " threw " + thrown.getCause(), 1, 0);
        }
    }

    /** What is told of all, in one number. */
    private static long state(AloneTogether x) {
        long state = 0;
        for (int what = 0; what < 5; what++) state = 31 * state + x.count(what);
        for (int m = 0; m < 6; m++) {
            for (int what = 0; what < 17; what++) state = 31 * state + x.told(m, what);
        }
        for (int s = 0; s < 4; s++) state = 31 * state + x.whose(s);
        return state;
    }
}
