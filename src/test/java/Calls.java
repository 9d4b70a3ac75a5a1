import java.lang.reflect.InvocationTargetException;
import java.lang.reflect.Method;
import java.util.Arrays;
import java.util.HashMap;
import java.util.Map;

/** Makes a call of BeeYard that is written out as in the document, such as "frame(3, 64)"; MIN and MAX are the ends of int. */
final class Calls {
    private static final Map<String, Method> METHODS = new HashMap<>();

    static {
        for (Method method : BeeYard.class.getMethods()) {
            if (method.getDeclaringClass() == BeeYard.class) {
                METHODS.put(method.getName(), method);
            }
        }
    }

    private Calls() {
    }

    static int make(BeeYard yard, String call) {
        int open = call.indexOf('(');
        String inside = call.substring(open + 1, call.length() - 1).trim();
        String[] words = inside.isEmpty() ? new String[0] : inside.split(",");
        int[] numbers = new int[words.length];
        for (int i = 0; i < words.length; i++) {
            numbers[i] = number(words[i].trim());
        }
        return make(yard, call.substring(0, open), numbers);
    }

    static int make(BeeYard yard, String name, int[] numbers) {
        try {
            return (Integer) METHODS.get(name).invoke(yard, Arrays.stream(numbers).boxed().toArray());
        } catch (InvocationTargetException e) {
            throw new IllegalStateException(name + Arrays.toString(numbers) + " threw", e.getCause());
        } catch (IllegalAccessException e) {
            throw new IllegalStateException(name + " is not public", e);
        }
    }

    private static int number(String word) {
        if (word.equals("MIN")) {
            return Integer.MIN_VALUE;
        }
        return word.equals("MAX") ? Integer.MAX_VALUE : Integer.parseInt(word);
    }
}
