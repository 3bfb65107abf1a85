import java.lang.reflect.InvocationTargetException;
import java.lang.reflect.Method;
import java.util.Arrays;

/**
 * Runs calls that are written as in the document, "reset(4): 3; addIntervals(): 10", and compares each answer with
 * the one that is due. Arguments and answers are numbers, constants of the class, or MIN_INT, MAX_INT, MIN_LONG and
 * MAX_LONG.
 */
final class Script {
    private final String test;
    private int calls = 0;
    private int wrong = 0;
    private String run = "";
    private TeachingSets object = new TeachingSets();

    Script(String test) {
        this.test = test;
    }

    /** Begins a run on a new object. */
    void fresh(String name, String... lines) {
        run = name;
        object = new TeachingSets();
        more(lines);
    }

    /** Goes on with the object of the run. */
    void more(String... lines) {
        for (String line : lines) {
            for (String call : line.split(";")) {
                check(call.trim());
            }
        }
    }

    void end() {
        System.out.println(test + ": " + calls + " calls, " + wrong + " wrong");
        if (wrong != 0 || calls == 0) {
            System.exit(1);
        }
    }

    private void check(String text) {
        int colon = text.lastIndexOf(':');
        String call = text.substring(0, colon).trim();
        long want = number(text.substring(colon + 1).trim());
        calls++;
        String got;
        try {
            got = Long.toString(answer(call));
        } catch (InvocationTargetException e) {
            got = e.getCause().toString();
        } catch (ReflectiveOperationException e) {
            got = e.toString();
        }
        if (!got.equals(Long.toString(want))) {
            wrong++;
            System.out.println(test + ", " + run + ": " + call + " answered " + got + ", due is " + want);
        }
    }

    private long answer(String call) throws ReflectiveOperationException {
        int open = call.indexOf('(');
        String name = call.substring(0, open);
        String inside = call.substring(open + 1, call.lastIndexOf(')')).trim();
        String[] words = inside.isEmpty() ? new String[0] : inside.split(",");
        Method method = Arrays.stream(TeachingSets.class.getDeclaredMethods())
                .filter(m -> m.getName().equals(name) && m.getParameterCount() == words.length)
                .findFirst().orElseThrow(() -> new NoSuchMethodException(call));
        Object[] arguments = new Object[words.length];
        for (int i = 0; i < words.length; i++) {
            long value = number(words[i].trim());
            if (method.getParameterTypes()[i] == long.class) {
                arguments[i] = value;
            } else {
                arguments[i] = Math.toIntExact(value);
            }
        }
        return ((Number) method.invoke(object, arguments)).longValue();
    }

    private static long number(String word) {
        switch (word) {
            case "MIN_INT": return Integer.MIN_VALUE;
            case "MAX_INT": return Integer.MAX_VALUE;
            case "MIN_LONG": return Long.MIN_VALUE;
            case "MAX_LONG": return Long.MAX_VALUE;
            default: break;
        }
        if (Character.isUpperCase(word.charAt(0))) {
            try {
                return TeachingSets.class.getField(word).getLong(null);
            } catch (ReflectiveOperationException e) {
                throw new IllegalArgumentException(word, e);
            }
        }
        return Long.parseLong(word);
    }
}
