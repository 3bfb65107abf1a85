/** Promises 30 to 40: the sample, the version space, queries and the halving algorithm. */
public final class SampleTest {
    public static void main(String[] args) {
        Script s = new Script("SampleTest");
        addExample(s);
        addExamples(s);
        clearAndRead(s);
        versions(s);
        decode(s);
        majority(s);
        queries(s);
        halving(s);
        s.end();
    }

    private static void addExample(Script s) {
        s.fresh("promise 30: wrong arguments", "addExample(3, 2): NO_SUCH_POINT; addExample(-1, 0): NO_SUCH_POINT",
                "addExample(MIN_INT, -1): NO_SUCH_POINT; addExample(MAX_INT, 1): NO_SUCH_POINT",
                "addExample(2, 2): BAD_ARGUMENT; addExample(0, -1): BAD_ARGUMENT; addExample(0, MIN_INT): BAD_ARGUMENT",
                "addExample(0, MAX_INT): BAD_ARGUMENT; clearSample(): 0; addExample(2, 1): 1; example(0): 5");
        s.fresh("promise 30: the order of checks when the sample is full");
        for (int count = 1; count <= 12; count++) {
            s.more("addExample(" + count % 3 + ", " + count % 2 + "): " + count);
        }
        s.more("addExample(0, 0): FULL; addExample(0, 2): BAD_ARGUMENT; addExample(3, 2): NO_SUCH_POINT",
                "example(11): 0; example(0): 3; example(12): NONE; clearSample(): 12; addExample(0, 0): 1");
        s.fresh("promise 30: examples may repeat and need no concept",
                "addExample(1, 1): 1; addExample(1, 1): 2; addExample(1, 0): 3; example(1): 3; example(2): 2");
    }

    private static void addExamples(Script s) {
        s.fresh("promise 31: wrong arguments", "addExamples(0, 8): NO_SUCH_CONCEPT; addConcept(5): 0",
                "addExamples(0, 8): BAD_ARGUMENT; addExamples(0, -1): BAD_ARGUMENT",
                "addExamples(0, MIN_INT): BAD_ARGUMENT; addExamples(0, MAX_INT): BAD_ARGUMENT",
                "addExamples(1, -1): NO_SUCH_CONCEPT; addExamples(-1, 7): NO_SUCH_CONCEPT",
                "addExamples(MIN_INT, 0): NO_SUCH_CONCEPT; addExamples(MAX_INT, 0): NO_SUCH_CONCEPT; clearSample(): 0");
        s.fresh("promise 31: ascending, with the concept's labels",
                "addConcept(2): 0; addConcept(5): 1; addExamples(1, 7): 3; example(0): 1; example(1): 2; example(2): 5",
                "addExamples(0, 6): 5; example(3): 3; example(4): 4; addExamples(0, 0): 5; versionCount(): 0");
        s.fresh("promise 31: all or nothing", "reset(8): 3; addConcept(170): 0; addExamples(0, 255): 8",
                "addExamples(0, 31): FULL; example(8): NONE; addExamples(0, 256): BAD_ARGUMENT",
                "addExamples(1, 31): NO_SUCH_CONCEPT; addExamples(0, 240): 12; example(8): 8; example(11): 15",
                "addExamples(0, 1): FULL; addExamples(0, 0): 12; addExamples(0, -1): BAD_ARGUMENT",
                "addExamples(1, 1): NO_SUCH_CONCEPT; versionCount(): 1");
    }

    private static void clearAndRead(Script s) {
        s.fresh("promises 32 and 33", "clearSample(): 0; example(0): NONE; example(-1): NONE; addExample(0, 0): 1",
                "addExample(2, 0): 2; example(0): 0; example(1): 4; example(2): NONE; example(-1): NONE",
                "example(MIN_INT): NONE; example(MAX_INT): NONE; clearSample(): 2; example(0): NONE; clearSample(): 0");
    }

    private static void versions(Script s) {
        s.fresh("promises 34 and 35", "versionCount(): 0; version(0): NONE; addConcept(1): 0; addConcept(2): 1",
                "addConcept(3): 2; addConcept(6): 3; versionCount(): 4; version(0): 0; version(3): 3; version(4): NONE",
                "version(-1): NONE; version(MIN_INT): NONE; version(MAX_INT): NONE; addExample(1, 1): 1",
                "versionCount(): 3; version(0): 1; version(1): 2; version(2): 3; version(3): NONE",
                "addExample(0, 0): 2; versionCount(): 2; version(0): 1; version(1): 3; addExample(2, 1): 3",
                "versionCount(): 1; version(0): 3; version(1): NONE; addExample(2, 0): 4; versionCount(): 0",
                "version(0): NONE; clearSample(): 4; versionCount(): 4");
        s.fresh("promises 34 and 35: the space follows the class",
                "addExample(0, 1): 1; addConcept(0): 0; versionCount(): 0; addConcept(1): 1; version(0): 1",
                "complementAll(): 2; version(0): 0; versionCount(): 1; removeConcept(0): 1; versionCount(): 0");
    }

    private static void decode(Script s) {
        s.fresh("promise 36: empty", "decode(): EMPTY; addConcept(0): 0; decode(): 0; addExample(0, 1): 1",
                "decode(): EMPTY");
        s.fresh("promise 36: the lowest layer of the whole class, not of the version space",
                "addConcept(0): 0; addConcept(1): 1; addConcept(2): 2; addConcept(4): 3; decode(): 1",
                "addExample(0, 0): 1; decode(): 2; addExample(1, 0): 2; decode(): 3; addExample(2, 0): 3; decode(): 0");
        s.fresh("promise 36: among several the lowest number",
                "addConcept(3): 0; addConcept(0): 1; addConcept(7): 2; addConcept(1): 3; decode(): 1",
                "addExample(0, 1): 1; decode(): 2; addExample(2, 0): 2; decode(): 0");
    }

    private static void majority(Script s) {
        s.fresh("promise 37", "majority(0): EMPTY; majority(3): NO_SUCH_POINT; majority(-1): NO_SUCH_POINT",
                "majority(MIN_INT): NO_SUCH_POINT; majority(MAX_INT): NO_SUCH_POINT; addConcept(1): 0",
                "majority(0): 1; majority(1): 0; addConcept(2): 1; majority(0): 2; majority(1): 2; majority(2): 0",
                "addConcept(3): 2; majority(0): 1; majority(1): 1; addExample(0, 1): 1; majority(0): 1",
                "majority(1): 2; majority(2): 0; majority(3): NO_SUCH_POINT; addExample(2, 1): 2",
                "majority(0): EMPTY; majority(3): NO_SUCH_POINT");
    }

    private static void queries(Script s) {
        s.fresh("promises 38 and 39: few concepts", "queryDepth(): EMPTY; bestQuery(): EMPTY; addConcept(3): 0",
                "queryDepth(): 0; bestQuery(): NONE; addConcept(7): 1; queryDepth(): 1; bestQuery(): 2",
                "addExample(2, 1): 1; queryDepth(): 0; bestQuery(): NONE; addExample(2, 0): 2; queryDepth(): EMPTY",
                "bestQuery(): EMPTY");
        s.fresh("promises 38 and 39: singletons must be asked one after the other",
                "reset(8): 3; addConcept(0): 0; addConcept(1): 1; addConcept(2): 2; addConcept(4): 3",
                "addConcept(8): 4; addConcept(16): 5; addConcept(32): 6; addConcept(64): 7; addConcept(128): 8",
                "queryDepth(): 8; bestQuery(): 0; removeConcept(0): 8; queryDepth(): 7; bestQuery(): 0",
                "addExample(0, 0): 1; queryDepth(): 6; bestQuery(): 1; addExample(5, 1): 2; queryDepth(): 0");
        s.fresh("promises 38 and 39: the best point is not the first that splits",
                "addConcept(0): 0; addConcept(2): 1; addConcept(4): 2; addConcept(7): 3; queryDepth(): 2",
                "bestQuery(): 1");
        s.fresh("promises 38 and 39: halves", "reset(4): 3");
        for (int number = 0; number < 16; number++) {
            s.more("addConcept(" + number + "): " + number);
        }
        s.more("queryDepth(): 4; bestQuery(): 0; addExample(0, 1): 1; queryDepth(): 3; bestQuery(): 1",
                "addExample(1, 1): 2; addExample(2, 0): 3; queryDepth(): 1; bestQuery(): 3");
        s.fresh("promises 38 and 39: the worse side of a split counts, and of equally good points the lowest",
                "reset(7): 3; addConcept(1): 0; addConcept(3): 1; addConcept(5): 2; addConcept(9): 3",
                "addConcept(17): 4; queryDepth(): 4; bestQuery(): 1; addConcept(0): 5; addConcept(32): 6",
                "addConcept(64): 7; queryDepth(): 5; bestQuery(): 0");
    }

    private static void halving(Script s) {
        s.fresh("promise 40: wrong numbers", "halvingMistakes(0): NO_SUCH_CONCEPT; addConcept(7): 0",
                "halvingMistakes(1): NO_SUCH_CONCEPT; halvingMistakes(-1): NO_SUCH_CONCEPT",
                "halvingMistakes(MIN_INT): NO_SUCH_CONCEPT; halvingMistakes(MAX_INT): NO_SUCH_CONCEPT",
                "halvingMistakes(0): 0");
        s.fresh("promise 40: as many counts as 0", "addConcept(0): 0; addConcept(7): 1; halvingMistakes(0): 0",
                "halvingMistakes(1): 1");
        s.fresh("promise 40: the remaining concepts decide",
                "addConcept(7): 0; addConcept(3): 1; addConcept(1): 2; addConcept(0): 3; halvingMistakes(0): 1",
                "halvingMistakes(1): 0; halvingMistakes(2): 1; halvingMistakes(3): 1");
        s.fresh("promise 40: two mistakes, and the sample does not matter",
                "addConcept(0): 0; addConcept(1): 1; addConcept(2): 2; addConcept(3): 3; addExample(2, 1): 1",
                "halvingMistakes(3): 2; halvingMistakes(1): 1; halvingMistakes(2): 1; halvingMistakes(0): 0");
    }
}
