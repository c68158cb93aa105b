import java.lang.reflect.InvocationTargetException;
import java.lang.reflect.Method;
import java.util.HashMap;
import java.util.Map;

/** A call told as text, such as "write(0, 3, 255)", that can be made on any object. */
final class Call {
    private static final Map<String, Call> KNOWN = new HashMap<>();
    private final String text;
    private final Method method;
    private final Object[] arguments;

    private Call(String text) {
        this.text = text;
        String[] words = text.split("[(), ]+");
        method = methodNamed(words[0]);
        arguments = new Object[words.length - 1];
        for (int i = 1; i < words.length; i++) {
            boolean isNumber = !words[i].equals("true") && !words[i].equals("false");
            arguments[i - 1] = isNumber ? (Object) Integer.valueOf(words[i]) : Boolean.valueOf(words[i]);
        }
    }

    static Call of(String text) {
        return KNOWN.computeIfAbsent(text, Call::new);
    }

    private static Method methodNamed(String name) {
        for (Method method : FriendBackup.class.getMethods()) {
            if (method.getName().equals(name) && method.getDeclaringClass() == FriendBackup.class) {
                return method;
            }
        }
        throw new AssertionError("no method " + name);
    }

    boolean isOf(String name) {
        return method.getName().equals(name);
    }

    int number(int i) {
        return (Integer) arguments[i];
    }

    /** The number or truth that it answers, "done" if it answers nothing, or the class of what it throws. */
    Object on(FriendBackup object) {
        try {
            Object answer = method.invoke(object, arguments);
            return answer == null ? "done" : answer;
        } catch (InvocationTargetException e) {
            return e.getCause().getClass();
        } catch (IllegalAccessException e) {
            throw new AssertionError(e);
        }
    }

    @Override
    public String toString() {
        return text;
    }
}
