import java.lang.reflect.InvocationTargetException;
import java.lang.reflect.Method;
import java.nio.charset.StandardCharsets;
import java.util.HashMap;
import java.util.Map;

/** Calls by name on one object, each answered as a text: a number (a boolean counts 1 or 0) or what was thrown. */
final class Calls {
    private final Object target;
    private final Map<String, Method> methods = new HashMap<>();

    Calls(Object target) {
        this.target = target;
        for (Method method : target.getClass().getDeclaredMethods()) {
            method.setAccessible(true);
            methods.put(method.getName() + "/" + method.getParameterCount(), method);
        }
    }

    /** A call like "price 0 6", a boolean told as true or false. */
    String answer(String call) {
        String[] words = call.split(" ");
        Method method = methods.get(words[0] + "/" + (words.length - 1));
        if (method == null) {
            throw new AssertionError("no such call: " + call);
        }
        Object[] arguments = new Object[words.length - 1];
        for (int i = 0; i < arguments.length; i++) {
            boolean isBoolean = method.getParameterTypes()[i] == boolean.class;
            arguments[i] = isBoolean ? (Object) Boolean.valueOf(words[i + 1]) : Integer.valueOf(words[i + 1]);
        }
        try {
            return text(method.invoke(target, arguments));
        } catch (InvocationTargetException e) {
            return e.getCause().getClass().getSimpleName();
        } catch (IllegalAccessException e) {
            throw new AssertionError(e);
        }
    }

    private static String text(Object answer) {
        if (answer == null) {
            return "";
        }
        if (answer instanceof Boolean yes) {
            return yes ? "1" : "0";
        }
        return answer.toString();
    }

    /** The feed calls that put a text on the tape, filled up with blanks. */
    static String[] feeds(String text) {
        byte[] bytes = text.getBytes(StandardCharsets.ISO_8859_1);
        String[] feeds = new String[(bytes.length + 19) / 20];
        for (int i = 0; i < feeds.length; i++) {
            StringBuilder call = new StringBuilder("feed");
            for (int j = 0; j < 5; j++) {
                int number = 0;
                for (int k = 0; k < 4; k++) {
                    int at = 20 * i + 4 * j + k;
                    number = number << 8 | (at < bytes.length ? bytes[at] & 255 : ' ');
                }
                call.append(' ').append(number);
            }
            feeds[i] = call.toString();
        }
        return feeds;
    }
}
