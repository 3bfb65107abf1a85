import java.lang.reflect.Method;
import java.util.ArrayList;
import java.util.List;

/**
 * Every class there is over 1, 2 and 3 points, with every consistent or inconsistent labelling of its points as the
 * sample, compared with the plain model. "java SmallClassesTest 4 8 0" takes every 8th class over 4 points, from the
 * first one on.
 */
public final class SmallClassesTest {
    private static final int MOST_CALLS = 512;
    private static final int MOST_TOLD = 10;

    private static int calls = 0;
    private static int wrong = 0;

    private final int points;
    private final List<Integer> concepts;
    private TeachingSets object;
    private PlainModel model;
    private int made;
    private String told = "";

    private SmallClassesTest(int points, List<Integer> concepts) {
        this.points = points;
        this.concepts = concepts;
    }

    public static void main(String[] args) throws ReflectiveOperationException {
        if (args.length == 3) {
            allClasses(Integer.parseInt(args[0]), Integer.parseInt(args[1]), Integer.parseInt(args[2]));
        } else {
            for (int points = 1; points <= 3; points++) {
                allClasses(points, 1, 0);
            }
        }
        System.out.println("SmallClassesTest: " + calls + " calls, " + wrong + " wrong");
        if (wrong != 0 || calls == 0) {
            System.exit(1);
        }
    }

    private static void allClasses(int points, int step, int first) throws ReflectiveOperationException {
        int sets = 1 << points;
        for (int members = first; members < 1 << sets; members += step) {
            List<Integer> concepts = new ArrayList<>();
            for (int place = 0; place < sets; place++) {
                // Every second class is added from the highest set down, since numbers decide between equals.
                int set = members % 2 == 0 ? place : sets - 1 - place;
                if ((members >> set & 1) == 1) {
                    concepts.add(set);
                }
            }
            SmallClassesTest test = new SmallClassesTest(points, concepts);
            test.teaching();
            test.preferring();
            test.shattering();
            test.learning();
            test.changing();
        }
    }

    private void begin() throws ReflectiveOperationException {
        object = new TeachingSets();
        model = new PlainModel();
        made = 0;
        told = "";
        same("reset", points);
        for (int concept : concepts) {
            same("addConcept", concept);
        }
    }

    private void same(String name, int... arguments) throws ReflectiveOperationException {
        Object[] given = new Object[arguments.length];
        Class<?>[] types = new Class<?>[arguments.length];
        StringBuilder call = new StringBuilder(name).append('(');
        for (int i = 0; i < arguments.length; i++) {
            given[i] = arguments[i];
            types[i] = int.class;
            call.append(i == 0 ? "" : ", ").append(arguments[i]);
        }
        Method method = TeachingSets.class.getMethod(name, types);
        Object got = method.invoke(object, given);
        Object due = PlainModel.class.getDeclaredMethod(name, types).invoke(model, given);
        calls++;
        made++;
        told += call + "): " + got + "; ";
        if (!got.equals(due) || made > MOST_CALLS) {
            wrong++;
            if (wrong <= MOST_TOLD) {
                System.out.println("SmallClassesTest, due last is " + due + " in call " + made + ": " + told);
            }
        }
    }

    private void teaching() throws ReflectiveOperationException {
        begin();
        same("isIntersectionClosed");
        same("recursiveDimension");
        same("layerCount");
        for (int which = 0; which <= 1; which++) {
            same("teachingDimension", which);
            same("averageDimension", which);
        }
        for (int number = 0; number < concepts.size(); number++) {
            same("teachingSet", number);
            same("layer", number);
            same("planSet", number);
            same("halvingMistakes", number);
            for (int size = 0; size <= points; size++) {
                same("teachingSetCount", number, size);
            }
            for (int set = 0; set < 1 << points; set++) {
                same("isTeachingSet", number, set);
            }
        }
    }

    /** Scores of which some are equal, some infinite and some NaN. */
    private void preferring() throws ReflectiveOperationException {
        int[][] scores = {{1, 2}, {0, 0}, {-1, 0}, {2, 4}, {1, 0}, {0, -3}, {0, 5}, {-7, 3}};
        begin();
        for (int number = 0; number < concepts.size(); number++) {
            int[] score = scores[(concepts.get(number) + concepts.size()) % scores.length];
            same("setScore", number, score[0], score[1]);
        }
        for (int number = 0; number < concepts.size(); number++) {
            same("preferenceSet", number);
            for (int other = 0; other < concepts.size(); other++) {
                same("compareScores", number, other);
            }
        }
    }

    private void shattering() throws ReflectiveOperationException {
        begin();
        same("dimension");
        for (int set = 0; set < 1 << points; set++) {
            same("traceCount", set);
        }
        for (int size = 0; size <= points; size++) {
            same("shatteredSet", size);
            same("shatteredCount", size);
            same("growth", size);
        }
    }

    private void learning() throws ReflectiveOperationException {
        int samples = 1;
        for (int point = 0; point < points; point++) {
            samples *= 3;
        }
        for (int sample = 0; sample < samples; sample++) {
            begin();
            for (int point = 0, rest = sample; point < points; point++, rest /= 3) {
                if (rest % 3 != 0) {
                    same("addExample", point, rest % 3 - 1);
                }
            }
            same("versionCount");
            same("decode");
            same("queryDepth");
            same("bestQuery");
            for (int point = 0; point < points; point++) {
                same("majority", point);
            }
            for (int index = 0; index <= concepts.size(); index++) {
                same("version", index);
            }
        }
    }

    /** Each restriction, and the complements, with what is left of concepts and scores. */
    private void changing() throws ReflectiveOperationException {
        for (int set = 1; set < 1 << points; set++) {
            begin();
            for (int number = 0; number < concepts.size(); number++) {
                same("setScore", number, number, 1);
            }
            same("snapshot");
            same("complementAll");
            same("restrict", set);
            same("pointCount");
            same("layerCount");
            for (int number = 0; number < object.conceptCount(); number++) {
                same("concept", number);
                same("compareScores", 0, number);
                same("layer", number);
            }
            same("addIntervals");
            same("conceptCount");
            same("restore");
            for (int concept = 0; concept < 1 << points; concept++) {
                same("numberOf", concept);
            }
        }
    }
}
