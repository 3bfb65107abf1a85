import java.lang.reflect.InvocationTargetException;
import java.lang.reflect.Method;
import java.lang.reflect.Modifier;
import java.util.HashMap;
import java.util.Map;

/**
 * A call written as in the document, with the answer that is due: "addExample(0, 2): BAD_ARGUMENT". Arguments and
 * answers are numbers, constants of the class, or MIN_INT, MAX_INT, MIN_LONG and MAX_LONG; the answer "any" is given
 * where a test looks only at what the call leaves as it was.
 */
final class Call {
    private static final Map<String, Method> METHODS = new HashMap<>();

    static {
        for (Method method : TeachingSets.class.getDeclaredMethods()) {
            if (Modifier.isPublic(method.getModifiers())) {
                METHODS.put(method.getName(), method);
            }
        }
    }

    /** Without the answer that is due. */
    final String text;
    final String name;
    final Object[] arguments;
    final boolean dueIsGiven;
    final long due;
    /** Whether the answer that is due is one of the document's error codes. */
    final boolean refused;

    Call(String written) {
        int colon = written.lastIndexOf(':');
        text = written.substring(0, colon).trim();
        String answer = written.substring(colon + 1).trim();
        dueIsGiven = !answer.equals("any");
        due = dueIsGiven ? number(answer) : 0;
        refused = isConstant(answer);
        int open = text.indexOf('(');
        name = text.substring(0, open);
        String inside = text.substring(open + 1, text.lastIndexOf(')')).trim();
        String[] words = inside.isEmpty() ? new String[0] : inside.split(",");
        Class<?>[] types = method().getParameterTypes();
        if (types.length != words.length) {
            throw new IllegalArgumentException(written);
        }
        arguments = new Object[words.length];
        for (int i = 0; i < words.length; i++) {
            long value = number(words[i].trim());
            if (types[i] == long.class) {
                arguments[i] = value;
            } else {
                arguments[i] = Math.toIntExact(value);
            }
        }
    }

    private Method method() {
        Method method = METHODS.get(name);
        if (method == null) {
            throw new IllegalArgumentException("no method " + name);
        }
        return method;
    }

    /** The answer, or what was thrown. */
    String answerOf(TeachingSets object) {
        return answer(method(), object);
    }

    String answerOf(PlainModel model) {
        try {
            return answer(PlainModel.class.getDeclaredMethod(name, method().getParameterTypes()), model);
        } catch (NoSuchMethodException e) {
            return e.toString();
        }
    }

    private String answer(Method method, Object object) {
        try {
            return method.invoke(object, arguments).toString();
        } catch (InvocationTargetException e) {
            return e.getCause().toString();
        } catch (ReflectiveOperationException e) {
            return e.toString();
        }
    }

    private static boolean isConstant(String word) {
        return Character.isUpperCase(word.charAt(0)) && !word.startsWith("MIN_") && !word.startsWith("MAX_");
    }

    private static long number(String word) {
        switch (word) {
            case "MIN_INT": return Integer.MIN_VALUE;
            case "MAX_INT": return Integer.MAX_VALUE;
            case "MIN_LONG": return Long.MIN_VALUE;
            case "MAX_LONG": return Long.MAX_VALUE;
            default: break;
        }
        if (isConstant(word)) {
            try {
                return TeachingSets.class.getField(word).getLong(null);
            } catch (ReflectiveOperationException e) {
                throw new IllegalArgumentException(word, e);
            }
        }
        return Long.parseLong(word);
    }
}
