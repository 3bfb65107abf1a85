import java.lang.reflect.Method;
import java.lang.reflect.Modifier;
import java.util.ArrayList;
import java.util.Comparator;
import java.util.HashMap;
import java.util.List;
import java.util.Map;
import java.util.Random;

/** All promises at once: long runs of mixed calls, with the answers of the plain model as those that are due. */
public final class ModelTest {
    /** How the arguments of each method are drawn, by one letter for each. */
    private static final String[][] ARGUMENTS = {
        {"reset", "m"}, {"addConcept", "s"}, {"removeConcept", "n"}, {"concept", "n"}, {"numberOf", "s"},
        {"restrict", "s"}, {"isTeachingSet", "ns"}, {"teachingSet", "n"}, {"teachingSetCount", "nz"},
        {"teachingDimension", "b"}, {"averageDimension", "b"}, {"layer", "n"}, {"planSet", "n"},
        {"setScore", "nqq"}, {"compareScores", "nn"}, {"preferenceSet", "n"}, {"traceCount", "s"},
        {"shatteredSet", "z"}, {"shatteredCount", "z"}, {"growth", "z"}, {"addExample", "pb"},
        {"addExamples", "ns"}, {"example", "e"}, {"version", "n"}, {"majority", "p"}, {"halvingMistakes", "n"},
        {"allocate", "ltk"}, {"release", "l"}, {"putElement", "liv"}, {"element", "li"},
        {"copyElements", "lilii"}, {"loadClass", "l"}, {"storeScores", "l"}};

    /** Calls that undo much are made rarely, so that runs reach large classes. */
    private static final List<String> RARE = List.of("reset", "restrict", "removeConcept", "loadClass", "release",
            "restore");

    /** The sample is cleared often, since the version space of a long sample is nearly always empty. */
    private static final List<String> OFTEN = List.of("addConcept", "setScore", "putElement", "clearSample");

    private final Random random;
    private final Map<String, String> arguments = new HashMap<>();
    private final List<Method> calls = new ArrayList<>();
    private int points;
    private int count;

    private ModelTest(long seed) {
        random = new Random(seed);
        for (String[] row : ARGUMENTS) {
            arguments.put(row[0], row[1]);
        }
        Method[] methods = TeachingSets.class.getDeclaredMethods();
        List<Method> sorted = new ArrayList<>(List.of(methods));
        sorted.sort(Comparator.comparing(Method::getName));
        for (Method method : sorted) {
            if (Modifier.isPublic(method.getModifiers())) {
                int weight = RARE.contains(method.getName()) ? 1 : OFTEN.contains(method.getName()) ? 16 : 4;
                for (int i = 0; i < weight; i++) {
                    calls.add(method);
                }
            }
        }
    }

    public static void main(String[] args) throws ReflectiveOperationException {
        int runs = args.length > 0 ? Integer.parseInt(args[0]) : 600;
        int wrong = 0;
        for (int run = 0; run < runs && wrong < 5; run++) {
            wrong += new ModelTest(run).run(run) ? 0 : 1;
        }
        System.out.println("ModelTest: " + runs + " runs of up to 512 calls, " + wrong + " wrong");
        if (wrong != 0) {
            System.exit(1);
        }
    }

    private boolean run(int run) throws ReflectiveOperationException {
        TeachingSets object = new TeachingSets();
        PlainModel model = new PlainModel();
        StringBuilder told = new StringBuilder();
        int length = 512;
        if (run % 2 == 1) {
            // A run that stays with one number of points meets more than the small domains that restrict leaves.
            points = 1 + run / 2 % 8;
            object.reset(points);
            model.reset(points);
            told.append("reset(").append(points).append(")\n");
            length--;
        }
        for (int i = 0; i < length; i++) {
            points = model.pointCount();
            count = model.conceptCount();
            Method method = calls.get(random.nextInt(calls.size()));
            Object[] drawn = draw(method);
            Method twin = PlainModel.class.getDeclaredMethod(method.getName(), method.getParameterTypes());
            long want = ((Number) twin.invoke(model, drawn)).longValue();
            long got = ((Number) method.invoke(object, drawn)).longValue();
            told.append(method.getName()).append(List.of(drawn)).append(": ").append(got).append('\n');
            if (got != want) {
                System.out.println("run " + run + ", due last is " + want + ":\n" + told);
                return false;
            }
        }
        return true;
    }

    private Object[] draw(Method method) {
        String letters = arguments.getOrDefault(method.getName(), "");
        if (letters.length() != method.getParameterCount()) {
            throw new IllegalStateException(method.getName());
        }
        Object[] drawn = new Object[letters.length()];
        for (int i = 0; i < drawn.length; i++) {
            if (letters.charAt(i) == 'v') {
                drawn[i] = drawValue();
            } else {
                drawn[i] = draw(letters.charAt(i));
            }
        }
        return drawn;
    }

    private int draw(char letter) {
        if (random.nextInt(150) == 0) {
            int[] extremes = {Integer.MIN_VALUE, Integer.MAX_VALUE, -1, 32, 256, 1 << 16, Integer.MIN_VALUE + 1};
            return extremes[random.nextInt(extremes.length)];
        }
        switch (letter) {
            case 'm': return random.nextInt(11) - 1;
            case 's': return random.nextInt(20) == 0 ? random.nextInt(300) - 20 : random.nextInt(1 << points);
            case 'n': return random.nextInt(count + 2) - (random.nextInt(8) == 0 ? 1 : 0);
            case 'z': return random.nextInt(points + 3) - 1;
            case 'b': return random.nextInt(12) == 0 ? random.nextInt(5) - 2 : random.nextInt(2);
            case 'q': return random.nextInt(7) - 3;
            case 'p': return random.nextInt(8) == 0 ? random.nextInt(11) - 1 : random.nextInt(points);
            case 'e': return random.nextInt(15) - 1;
            case 'l': return random.nextInt(12) == 0 ? random.nextInt(7) - 1 : random.nextInt(4);
            case 't': return random.nextInt(12) == 0 ? random.nextInt(7) - 1 : random.nextInt(4);
            case 'k': return random.nextInt(8) == 0 ? random.nextInt(46) - 3 : 20 + random.nextInt(21);
            case 'i': return random.nextInt(3) == 0 ? random.nextInt(45) - 2 : random.nextInt(10);
            default: throw new IllegalStateException("no such letter");
        }
    }

    private long drawValue() {
        switch (random.nextInt(4)) {
            case 0: return random.nextLong();
            case 1: return random.nextInt();
            default: return random.nextInt(1 << points);
        }
    }
}
