import java.io.IOException;
import java.lang.reflect.Array;
import java.lang.reflect.Constructor;
import java.lang.reflect.Field;
import java.lang.reflect.Method;
import java.lang.reflect.Modifier;
import java.nio.file.Files;
import java.nio.file.Path;
import java.util.ArrayDeque;
import java.util.Arrays;
import java.util.Collections;
import java.util.Deque;
import java.util.IdentityHashMap;
import java.util.Set;
import java.util.TreeSet;
import java.util.regex.Matcher;
import java.util.regex.Pattern;

/** The public face that the document tells, and those rules of LANGUAGE.md that can be read off the class. */
public final class FaceTest {
    private static final Path DOCUMENT = Path.of("../shared/DOC.md");
    private static final Path SOURCE = Path.of("src/main/java/TeachingSets.java");

    /** Rules 2, 6 and 10, and the page's own rule: nothing is thrown, so nothing is to be caught. */
    private static final String[] NOT_USED = {"->", "::", "\\btry\\b", "\\bcatch\\b", "\\bfinally\\b", "\\bthrow\\b",
        "\\bsynchronized\\b", "\\bassert\\b", "\\bDouble\\b", "\\bFloat\\b", "\\bstatic\\s*\\{", "\\b\\w+Exact\\b",
        "\\bwhile\\b"};

    private static final Set<String> LIBRARY = Set.of("Arrays.fill", "System.arraycopy", "Math.max", "Math.min",
            "Integer.bitCount", "Long.bitCount", "Long.MIN_VALUE");

    private static final int MOST_ELEMENTS = 1500;
    private static final int LONGEST_METHOD = 60;

    private static int wrong = 0;

    public static void main(String[] args) throws IOException, ReflectiveOperationException {
        face();
        constants();
        hiddenNames();
        limits();
        room();
        source();
        System.out.println("FaceTest: " + wrong + " wrong");
        if (wrong != 0) {
            System.exit(1);
        }
    }

    private static void holds(boolean fact, String otherwise) {
        if (!fact) {
            wrong++;
            System.out.println("FaceTest: " + otherwise);
        }
    }

    private static void face() throws IOException {
        Set<String> due = new TreeSet<>();
        String text = Files.readString(DOCUMENT);
        String block = text.substring(text.indexOf("```java"), text.indexOf("```", text.indexOf("```java") + 3));
        Matcher line = Pattern.compile("public (?!final class)(?:static final )?(.*?)( = .*)?;").matcher(block);
        while (line.find()) {
            due.add(line.group(1).replaceAll("(int|long) \\w+(?=[,)])", "$1"));
        }
        Set<String> there = new TreeSet<>();
        for (Method method : TeachingSets.class.getDeclaredMethods()) {
            if (!Modifier.isPrivate(method.getModifiers())) {
                there.add(method.getReturnType() + " " + method.getName() + types(method.getParameterTypes()));
            }
        }
        for (Field field : TeachingSets.class.getDeclaredFields()) {
            if (!Modifier.isPrivate(field.getModifiers())) {
                there.add(field.getType() + " " + field.getName());
            }
        }
        for (Constructor<?> constructor : TeachingSets.class.getDeclaredConstructors()) {
            there.add(constructor.getName() + types(constructor.getParameterTypes()));
        }
        holds(due.size() == 61, "the document's face was not read: " + due);
        holds(due.equals(there), "the face is " + there + ", due is " + due);
        holds(Modifier.isFinal(TeachingSets.class.getModifiers()), "the class is not final");
    }

    private static String types(Class<?>[] types) {
        StringBuilder told = new StringBuilder("(");
        for (Class<?> type : types) {
            told.append(told.length() > 1 ? ", " : "").append(type);
        }
        return told.append(")").toString();
    }

    private static void constants() throws ReflectiveOperationException {
        String[] names = {"BAD_ARGUMENT", "NO_SUCH_CONCEPT", "NO_SUCH_POINT", "FULL", "DUPLICATE", "NONE", "EMPTY",
            "EMPTY_SLOT", "WRONG_TYPE", "INDEX_OUT_OF_RANGE", "NEGATIVE_SIZE", "NO_VALUE"};
        long[] values = {-1, -2, -3, -4, -5, -6, -7, -11, -12, -13, -14, Long.MIN_VALUE};
        for (int i = 0; i < names.length; i++) {
            Field constant = TeachingSets.class.getField(names[i]);
            holds(constant.getLong(null) == values[i], names[i] + " is " + constant.getLong(null));
            int modifiers = constant.getModifiers();
            holds(Modifier.isStatic(modifiers) && Modifier.isFinal(modifiers), names[i] + " is no constant");
        }
    }

    /** Rule 1: no private method bears the name of a public one; here not in the classes inside either. */
    private static void hiddenNames() {
        Set<String> open = new TreeSet<>();
        for (Method method : TeachingSets.class.getMethods()) {
            if (method.getDeclaringClass() == TeachingSets.class) {
                open.add(method.getName());
            }
        }
        for (Method method : TeachingSets.class.getDeclaredMethods()) {
            holds(Modifier.isPublic(method.getModifiers()) || !open.contains(method.getName()), method + " is hidden");
        }
        for (Class<?> inside : TeachingSets.class.getDeclaredClasses()) {
            holds(Modifier.isStatic(inside.getModifiers()), inside + " is not static");
            holds(!Modifier.isPublic(inside.getModifiers()), inside + " is public");
            for (Method method : inside.getDeclaredMethods()) {
                holds(!open.contains(method.getName()), method + " bears the name of a public one");
            }
        }
    }

    /** Rules 5 and 11, as far as the compiled class shows them. */
    private static void limits() {
        Class<?>[] inside = TeachingSets.class.getDeclaredClasses();
        holds(inside.length + 1 <= 12, "the file has " + (inside.length + 1) + " classes");
        withinLimits(TeachingSets.class);
        for (Class<?> one : inside) {
            holds(one.getDeclaredClasses().length == 0, one + " has classes inside");
            withinLimits(one);
        }
    }

    private static void withinLimits(Class<?> one) {
        int fields = 0;
        for (Field field : one.getDeclaredFields()) {
            boolean shared = Modifier.isStatic(field.getModifiers());
            holds(!shared || Modifier.isFinal(field.getModifiers()), field + " is static state");
            fields += shared ? 0 : 1;
        }
        holds(fields <= 20, one + " has " + fields + " fields");
        for (Method method : one.getDeclaredMethods()) {
            holds(method.getParameterCount() <= 7, method + " takes too much");
        }
    }

    /** All objects of a run share one room: what one of them holds, before and after calls of all kinds. */
    private static void room() throws ReflectiveOperationException {
        TeachingSets object = new TeachingSets();
        int before = elements(object);
        object.reset(8);
        object.addIntervals();
        object.addExamples(0, 255);
        object.snapshot();
        object.allocate(0, 3, 40);
        object.layer(0);
        object.clearSample();
        object.queryDepth();
        object.dimension();
        object.restore();
        holds(before <= MOST_ELEMENTS, "an object holds " + before + " fields and elements");
        holds(elements(object) == before, "an object grows from " + before + " to " + elements(object));
    }

    private static int elements(Object first) throws ReflectiveOperationException {
        Set<Object> seen = Collections.newSetFromMap(new IdentityHashMap<>());
        Deque<Object> open = new ArrayDeque<>();
        open.add(first);
        int elements = 0;
        while (!open.isEmpty()) {
            Object next = open.remove();
            if (!seen.add(next)) {
                continue;
            }
            if (next.getClass().isArray()) {
                elements += Array.getLength(next);
                if (next instanceof Object[] parts) {
                    open.addAll(Arrays.asList(parts));
                }
                continue;
            }
            for (Field field : next.getClass().getDeclaredFields()) {
                if (!Modifier.isStatic(field.getModifiers())) {
                    elements++;
                    field.setAccessible(true);
                    Object held = field.get(next);
                    if (!field.getType().isPrimitive() && held != null) {
                        open.add(held);
                    }
                }
            }
        }
        return elements;
    }

    private static void source() throws IOException {
        String text = Files.readString(SOURCE).replaceAll("(?s)/\\*.*?\\*/", "").replaceAll("//.*", "");
        for (String pattern : NOT_USED) {
            holds(!Pattern.compile(pattern).matcher(text).find(), "the class uses " + pattern);
        }
        Matcher imported = Pattern.compile("import (.*);").matcher(text);
        while (imported.find()) {
            holds(imported.group(1).equals("java.util.Arrays"), "the class imports " + imported.group(1));
        }
        Matcher used = Pattern.compile("\\b[A-Z][a-z]\\w*\\.\\w+").matcher(text);
        while (used.find()) {
            holds(LIBRARY.contains(used.group()), "the class uses " + used.group());
        }
        roomIsMadeOnce(text);
        methodsAreShort(text);
    }

    private static void methodsAreShort(String text) {
        Matcher method = Pattern.compile("(?m)^( +)[^\\n;=]*\\) \\{\\n(?:(?!\\1\\}).*\\n)*\\1\\}").matcher(text);
        int found = 0;
        while (method.find()) {
            found++;
            long lines = method.group().lines().count();
            holds(lines <= LONGEST_METHOD, lines + " lines: " + method.group().lines().findFirst().orElse(""));
        }
        holds(found > 100, "only " + found + " methods were read");
    }

    /** All calls of a run share one room: a field is given its object in a constructor, and nothing else is made. */
    private static void roomIsMadeOnce(String text) {
        Matcher made = Pattern.compile("(?m)^(.*)\\bnew\\b").matcher(text);
        while (made.find()) {
            String before = text.substring(0, made.start());
            Matcher method = Pattern.compile("(?m)^ +(public |private |static )*(\\w+ )?(\\w+)\\([^()]*\\) \\{$").matcher(before);
            String last = "";
            String type = "";
            while (method.find()) {
                type = method.group(2) == null ? "" : method.group(2);
                last = method.group(3);
            }
            holds(type.isEmpty() && Character.isUpperCase(last.charAt(0)), "an object is made in " + type + last);
        }
    }
}
