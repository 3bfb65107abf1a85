/** Calls that are refused, and calls that only read, in states where everything that they could spoil is there. */
final class UnchangedState {
    /** Scores of all kinds, a sample, a snapshot that differs from what is there now, three arrays and an empty slot. */
    private static final String RICH = "reset(4): 3; addConcept(5): 0; addConcept(1): 1; addConcept(12): 2; addConcept(0): 3;"
            + "setScore(0, 5, 2): 0; setScore(1, 1, 0): 0; setScore(3, -7, 3): 0; addExample(3, 0): 1; addExample(2, 1): 2;"
            + "snapshot(): 4; setScore(0, 3, 1): 0; addConcept(15): 4; setScore(4, -1, 0): 0; addExample(0, 1): 3;"
            + "allocate(0, 1, 3): 3; putElement(0, 0, 9): 1; putElement(0, 2, -9): 1; allocate(1, 2, 2): 2;"
            + "putElement(1, 1, MIN_LONG): 1; allocate(2, 3, 2): 2; putElement(2, 0, 77): 1; putElement(2, 1, -77): 1";

    /** A full class and a full sample, which leave no concept in the version space; no snapshot; full arrays. */
    private static final String FULL = "reset(8): 3; addIntervals(): 20; setScore(0, 5, 2): 0; setScore(19, 1, 0): 0;"
            + "addExamples(0, 255): 8; addExamples(1, 15): 12; allocate(0, 0, 40): 40; putElement(0, 39, 3): 1;"
            + "allocate(1, 1, 40): 40; putElement(1, 39, 4): 1; allocate(2, 2, 40): 40; putElement(2, 39, 5): 1;"
            + "allocate(3, 3, 19): 19; putElement(3, 18, 6): 1";

    private UnchangedState() { }

    static void test(Sentences s) {
        refusedByTheClass(s);
        refusedByTheSample(s);
        refusedBySlots(s);
        copiesRefused(s);
        readers(s);
    }

    private static void refused(Sentences s, int promise, String... lines) {
        s.nothingChanges(promise, "a rich state by refused calls", RICH, String.join(";", lines));
    }

    private static void refusedWhenFull(Sentences s, int promise, String... lines) {
        s.nothingChanges(promise, "a full state by refused calls", FULL, String.join(";", lines));
    }

    private static void refusedByTheClass(Sentences s) {
        refused(s, 2, "reset(0): BAD_ARGUMENT; reset(9): BAD_ARGUMENT; reset(MIN_INT): BAD_ARGUMENT; reset(MAX_INT): BAD_ARGUMENT");
        refused(s, 4, "addConcept(-1): BAD_ARGUMENT; addConcept(16): BAD_ARGUMENT; addConcept(5): DUPLICATE",
                "addConcept(15): DUPLICATE");
        refusedWhenFull(s, 4, "addConcept(256): BAD_ARGUMENT; addConcept(-1): BAD_ARGUMENT; addConcept(1): DUPLICATE",
                "addConcept(124): DUPLICATE; addConcept(0): FULL; addConcept(128): FULL");
        // Nothing is refused here, but nothing is added either.
        refusedWhenFull(s, 5, "addIntervals(): 0; conceptCount(): 20; compareScores(0, 19): 0");
        refused(s, 6, "removeConcept(-1): NO_SUCH_CONCEPT; removeConcept(5): NO_SUCH_CONCEPT",
                "removeConcept(MIN_INT): NO_SUCH_CONCEPT; removeConcept(MAX_INT): NO_SUCH_CONCEPT");
        refusedWhenFull(s, 6, "removeConcept(-1): NO_SUCH_CONCEPT; removeConcept(20): NO_SUCH_CONCEPT");
        refused(s, 8, "concept(-1): NO_SUCH_CONCEPT; concept(5): NO_SUCH_CONCEPT");
        refused(s, 9, "numberOf(-1): NONE; numberOf(16): NONE; numberOf(2): NONE");
        refused(s, 11, "restrict(0): BAD_ARGUMENT; restrict(-1): BAD_ARGUMENT; restrict(16): BAD_ARGUMENT",
                "restrict(MIN_INT): BAD_ARGUMENT; restrict(MAX_INT): BAD_ARGUMENT");
        refusedWhenFull(s, 11, "restrict(0): BAD_ARGUMENT; restrict(-1): BAD_ARGUMENT; restrict(256): BAD_ARGUMENT");
        refused(s, 13, "isTeachingSet(-1, 0): NO_SUCH_CONCEPT; isTeachingSet(5, 0): NO_SUCH_CONCEPT",
                "isTeachingSet(0, -1): BAD_ARGUMENT; isTeachingSet(0, 16): BAD_ARGUMENT");
        refused(s, 14, "teachingSet(-1): NO_SUCH_CONCEPT; teachingSet(5): NO_SUCH_CONCEPT");
        refused(s, 15, "teachingSetCount(-1, 0): NO_SUCH_CONCEPT; teachingSetCount(5, 0): NO_SUCH_CONCEPT",
                "teachingSetCount(0, -1): BAD_ARGUMENT; teachingSetCount(0, 5): BAD_ARGUMENT");
        refused(s, 16, "teachingDimension(-1): BAD_ARGUMENT; teachingDimension(2): BAD_ARGUMENT");
        refused(s, 17, "averageDimension(-1): BAD_ARGUMENT; averageDimension(2): BAD_ARGUMENT");
        refused(s, 20, "layer(-1): NO_SUCH_CONCEPT; layer(5): NO_SUCH_CONCEPT");
        refused(s, 21, "planSet(-1): NO_SUCH_CONCEPT; planSet(5): NO_SUCH_CONCEPT");
        refused(s, 22, "setScore(-1, 1, 1): NO_SUCH_CONCEPT; setScore(5, 1, 1): NO_SUCH_CONCEPT",
                "setScore(MIN_INT, 0, 0): NO_SUCH_CONCEPT; setScore(MAX_INT, 1, 0): NO_SUCH_CONCEPT");
        refusedWhenFull(s, 22, "setScore(-1, 1, 1): NO_SUCH_CONCEPT; setScore(20, 1, 1): NO_SUCH_CONCEPT");
        refused(s, 23, "compareScores(-1, 0): NO_SUCH_CONCEPT; compareScores(0, 5): NO_SUCH_CONCEPT");
        refused(s, 24, "preferenceSet(-1): NO_SUCH_CONCEPT; preferenceSet(5): NO_SUCH_CONCEPT");
        refused(s, 25, "traceCount(-1): BAD_ARGUMENT; traceCount(16): BAD_ARGUMENT");
        refused(s, 27, "shatteredSet(-1): BAD_ARGUMENT; shatteredSet(5): BAD_ARGUMENT; shatteredSet(4): NONE");
        refused(s, 28, "shatteredCount(-1): BAD_ARGUMENT; shatteredCount(5): BAD_ARGUMENT");
        refused(s, 29, "growth(-1): BAD_ARGUMENT; growth(5): BAD_ARGUMENT");
    }

    private static void refusedByTheSample(Sentences s) {
        refused(s, 30, "addExample(-1, 0): NO_SUCH_POINT; addExample(4, 0): NO_SUCH_POINT; addExample(0, -1): BAD_ARGUMENT",
                "addExample(0, 2): BAD_ARGUMENT");
        refusedWhenFull(s, 30, "addExample(8, 0): NO_SUCH_POINT; addExample(0, 2): BAD_ARGUMENT; addExample(0, 0): FULL",
                "addExample(7, 1): FULL");
        refused(s, 31, "addExamples(-1, 1): NO_SUCH_CONCEPT; addExamples(5, 1): NO_SUCH_CONCEPT",
                "addExamples(0, -1): BAD_ARGUMENT; addExamples(0, 16): BAD_ARGUMENT");
        refusedWhenFull(s, 31, "addExamples(20, 1): NO_SUCH_CONCEPT; addExamples(0, 256): BAD_ARGUMENT; addExamples(0, 1): FULL",
                "addExamples(19, 255): FULL; addExamples(0, 0): 12");
        refused(s, 33, "example(-1): NONE; example(3): NONE; example(MIN_INT): NONE; example(MAX_INT): NONE");
        refused(s, 35, "version(-1): NONE; version(1): NONE; version(5): NONE");
        refusedWhenFull(s, 36, "decode(): EMPTY");
        refused(s, 37, "majority(-1): NO_SUCH_POINT; majority(4): NO_SUCH_POINT");
        refusedWhenFull(s, 37, "majority(8): NO_SUCH_POINT; majority(0): EMPTY; majority(7): EMPTY");
        refusedWhenFull(s, 38, "queryDepth(): EMPTY");
        refused(s, 39, "bestQuery(): NONE");
        refusedWhenFull(s, 39, "bestQuery(): EMPTY");
        refused(s, 40, "halvingMistakes(-1): NO_SUCH_CONCEPT; halvingMistakes(5): NO_SUCH_CONCEPT");
        refusedWhenFull(s, 49, "restore(): NONE");
    }

    private static void refusedBySlots(Sentences s) {
        refused(s, 41, "allocate(-1, 0, 1): BAD_ARGUMENT; allocate(4, 0, 1): BAD_ARGUMENT; allocate(0, -1, 1): BAD_ARGUMENT",
                "allocate(0, 4, 1): BAD_ARGUMENT; allocate(0, 1, 41): BAD_ARGUMENT; allocate(3, 1, 41): BAD_ARGUMENT",
                "allocate(0, 1, -1): NEGATIVE_SIZE; allocate(1, 0, MIN_INT): NEGATIVE_SIZE; allocate(3, 3, -1): NEGATIVE_SIZE");
        refused(s, 42, "release(-1): BAD_ARGUMENT; release(4): BAD_ARGUMENT; release(3): 0");
        refused(s, 43, "putElement(-1, 0, 1): BAD_ARGUMENT; putElement(4, 0, 1): BAD_ARGUMENT; putElement(3, 0, 1): EMPTY_SLOT",
                "putElement(0, -1, 1): INDEX_OUT_OF_RANGE; putElement(0, 3, 1): INDEX_OUT_OF_RANGE",
                "putElement(1, 2, 1): INDEX_OUT_OF_RANGE; putElement(2, 2, 1): INDEX_OUT_OF_RANGE");
        refusedWhenFull(s, 43, "putElement(0, 40, 1): INDEX_OUT_OF_RANGE; putElement(1, 40, 1): INDEX_OUT_OF_RANGE",
                "putElement(2, 40, 1): INDEX_OUT_OF_RANGE; putElement(3, 19, 1): INDEX_OUT_OF_RANGE");
        refused(s, 44, "element(-1, 0): NO_VALUE; element(4, 0): NO_VALUE; element(3, 0): NO_VALUE; element(0, -1): NO_VALUE",
                "element(0, 3): NO_VALUE; element(1, 2): NO_VALUE; element(2, 2): NO_VALUE");
        refused(s, 46, "loadClass(-1): BAD_ARGUMENT; loadClass(4): BAD_ARGUMENT; loadClass(3): EMPTY_SLOT",
                "loadClass(1): WRONG_TYPE; loadClass(2): WRONG_TYPE");
        refusedWhenFull(s, 46, "loadClass(-1): BAD_ARGUMENT; loadClass(0): WRONG_TYPE; loadClass(2): WRONG_TYPE",
                "loadClass(3): WRONG_TYPE");
        refused(s, 47, "storeScores(-1): BAD_ARGUMENT; storeScores(4): BAD_ARGUMENT; storeScores(3): EMPTY_SLOT",
                "storeScores(0): WRONG_TYPE; storeScores(1): WRONG_TYPE; storeScores(2): INDEX_OUT_OF_RANGE");
        refusedWhenFull(s, 47, "storeScores(0): WRONG_TYPE; storeScores(1): WRONG_TYPE; storeScores(2): WRONG_TYPE",
                "storeScores(3): INDEX_OUT_OF_RANGE");
    }

    private static void copiesRefused(Sentences s) {
        refused(s, 45, "copyElements(-1, 0, 0, 0, 1): BAD_ARGUMENT; copyElements(0, 0, 4, 0, 1): BAD_ARGUMENT",
                "copyElements(0, 0, 3, 0, 1): EMPTY_SLOT; copyElements(3, 0, 0, 0, 1): EMPTY_SLOT",
                "copyElements(0, 0, 1, 0, 1): WRONG_TYPE; copyElements(1, 0, 2, 0, 1): WRONG_TYPE",
                "copyElements(2, 0, 0, 0, 1): WRONG_TYPE; copyElements(0, -1, 0, 0, 1): INDEX_OUT_OF_RANGE",
                "copyElements(0, 0, 0, -1, 1): INDEX_OUT_OF_RANGE; copyElements(0, 0, 0, 1, -1): INDEX_OUT_OF_RANGE",
                "copyElements(0, 0, 0, 1, 3): INDEX_OUT_OF_RANGE; copyElements(0, 1, 0, 0, 3): INDEX_OUT_OF_RANGE",
                "copyElements(1, 1, 1, 0, 2): INDEX_OUT_OF_RANGE; copyElements(2, 0, 2, 1, 2): INDEX_OUT_OF_RANGE",
                "copyElements(2, 1, 2, 0, MAX_INT): INDEX_OUT_OF_RANGE");
        s.nothingChanges(45, "a rich state by copies of no element", RICH, "copyElements(0, 0, 0, 1, 0): 0",
                "copyElements(1, 2, 1, 0, 0): 0; copyElements(2, 0, 2, 2, 0): 0");
    }

    private static void read(Sentences s, int promise, String... lines) {
        s.nothingChanges(promise, "a rich state by calls that read", RICH, String.join(";", lines));
        s.nothingChanges(promise, "a full state by calls that read", FULL, String.join(";", lines));
    }

    private static void readers(Sentences s) {
        read(s, 3, "pointCount(): any");
        read(s, 7, "conceptCount(): any");
        read(s, 8, "concept(0): any; concept(4): any");
        read(s, 9, "numberOf(15): any; numberOf(0): any");
        read(s, 12, "isIntersectionClosed(): any");
        read(s, 13, "isTeachingSet(0, 0): any; isTeachingSet(4, 15): any");
        read(s, 14, "teachingSet(0): any; teachingSet(4): any");
        read(s, 15, "teachingSetCount(0, 0): any; teachingSetCount(4, 4): any");
        read(s, 16, "teachingDimension(0): any; teachingDimension(1): any");
        read(s, 17, "averageDimension(0): any; averageDimension(1): any");
        read(s, 18, "recursiveDimension(): any");
        read(s, 19, "layerCount(): any");
        read(s, 20, "layer(0): any; layer(4): any");
        read(s, 21, "planSet(0): any; planSet(4): any");
        read(s, 23, "compareScores(0, 1): any; compareScores(4, 2): any; compareScores(0, 0): any");
        read(s, 24, "preferenceSet(0): any; preferenceSet(1): any; preferenceSet(2): any");
        read(s, 25, "traceCount(0): any; traceCount(15): any");
        read(s, 26, "dimension(): any");
        read(s, 27, "shatteredSet(0): any; shatteredSet(1): any; shatteredSet(4): any");
        read(s, 28, "shatteredCount(0): any; shatteredCount(2): any");
        read(s, 29, "growth(0): any; growth(3): any; growth(4): any");
        read(s, 33, "example(0): any; example(2): any");
        read(s, 34, "versionCount(): any");
        read(s, 35, "version(0): any");
        read(s, 36, "decode(): any");
        read(s, 37, "majority(0): any; majority(3): any");
        read(s, 38, "queryDepth(): any");
        read(s, 39, "bestQuery(): any");
        read(s, 40, "halvingMistakes(0): any; halvingMistakes(4): any");
        read(s, 44, "element(0, 0): any; element(1, 1): any; element(2, 1): any");
    }
}
