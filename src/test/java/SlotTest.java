/** Promises 41 to 49: the array slots and the snapshot. */
public final class SlotTest {
    public static void main(String[] args) {
        Script s = new Script("SlotTest");
        allocate(s);
        release(s);
        putElement(s);
        element(s);
        copyErrors(s);
        copies(s);
        loadClass(s);
        storeScores(s);
        snapshots(s);
        s.end();
    }

    private static void allocate(Script s) {
        s.fresh("promise 41: wrong arguments", "allocate(-1, 0, 1): BAD_ARGUMENT; allocate(4, 0, 1): BAD_ARGUMENT",
                "allocate(0, -1, 1): BAD_ARGUMENT; allocate(0, 4, 1): BAD_ARGUMENT; allocate(0, 0, 41): BAD_ARGUMENT",
                "allocate(0, 0, MAX_INT): BAD_ARGUMENT; allocate(4, 0, -1): BAD_ARGUMENT",
                "allocate(0, 4, -1): BAD_ARGUMENT; allocate(MIN_INT, 0, -1): BAD_ARGUMENT",
                "allocate(0, MAX_INT, -1): BAD_ARGUMENT; allocate(0, 0, -1): NEGATIVE_SIZE",
                "allocate(3, 3, MIN_INT): NEGATIVE_SIZE; release(0): 0; release(3): 0");
        for (int type = 0; type < 4; type++) {
            s.fresh("promise 41: type " + type, "allocate(" + type + ", " + type + ", 40): 40",
                    "element(" + type + ", 0): 0; element(" + type + ", 39): 0; element(" + type + ", 40): NO_VALUE",
                    "putElement(" + type + ", 39, 7): 1; allocate(" + type + ", " + type + ", 0): 0",
                    "element(" + type + ", 0): NO_VALUE; allocate(" + type + ", " + type + ", 40): 40",
                    "element(" + type + ", 39): 0; release(" + type + "): 1");
        }
        s.fresh("promise 41: a refused call keeps the array", "allocate(1, 2, 3): 3; putElement(1, 2, 5): 1",
                "allocate(1, 2, 41): BAD_ARGUMENT; allocate(1, 4, 1): BAD_ARGUMENT; allocate(1, 0, -1): NEGATIVE_SIZE",
                "element(1, 2): 5; allocate(1, 0, 3): 3; element(1, 2): 0; putElement(1, 0, 200): 1; element(1, 0): -56");
    }

    private static void release(Script s) {
        s.fresh("promise 42", "release(-1): BAD_ARGUMENT; release(4): BAD_ARGUMENT; release(MIN_INT): BAD_ARGUMENT",
                "release(MAX_INT): BAD_ARGUMENT; release(0): 0; allocate(0, 1, 2): 2; allocate(3, 1, 0): 0",
                "release(0): 1; release(0): 0; release(3): 1; release(3): 0; element(0, 0): NO_VALUE",
                "putElement(0, 0, 1): EMPTY_SLOT");
    }

    private static void putElement(Script s) {
        s.fresh("promise 43: the order of checks", "putElement(-1, -1, 0): BAD_ARGUMENT; putElement(4, 0, 0): BAD_ARGUMENT",
                "putElement(MIN_INT, 0, 0): BAD_ARGUMENT; putElement(MAX_INT, 0, 0): BAD_ARGUMENT",
                "putElement(0, -1, 0): EMPTY_SLOT; putElement(0, 0, 0): EMPTY_SLOT; allocate(0, 2, 2): 2",
                "putElement(0, -1, 0): INDEX_OUT_OF_RANGE; putElement(0, 2, 0): INDEX_OUT_OF_RANGE",
                "putElement(0, MIN_INT, 0): INDEX_OUT_OF_RANGE; putElement(0, MAX_INT, 0): INDEX_OUT_OF_RANGE",
                "putElement(0, 1, 9): 1; element(0, 1): 9; element(0, 0): 0; allocate(0, 2, 0): 0",
                "putElement(0, 0, 1): INDEX_OUT_OF_RANGE");
        s.fresh("promise 43: bytes", "allocate(0, 0, 1): 1; putElement(0, 0, 127): 1; element(0, 0): 127",
                "putElement(0, 0, 128): 1; element(0, 0): -128; putElement(0, 0, -129): 1; element(0, 0): 127",
                "putElement(0, 0, 4294967297): 1; element(0, 0): 1; putElement(0, 0, MIN_LONG): 1; element(0, 0): 0",
                "putElement(0, 0, MAX_LONG): 1; element(0, 0): -1");
        s.fresh("promise 43: shorts", "allocate(0, 1, 1): 1; putElement(0, 0, 32767): 1; element(0, 0): 32767",
                "putElement(0, 0, 32768): 1; element(0, 0): -32768; putElement(0, 0, -32769): 1; element(0, 0): 32767",
                "putElement(0, 0, 4295032833): 1; element(0, 0): 1; putElement(0, 0, MAX_LONG): 1; element(0, 0): -1");
        s.fresh("promise 43: longs", "allocate(0, 2, 1): 1; putElement(0, 0, MAX_LONG): 1; element(0, 0): MAX_LONG",
                "putElement(0, 0, MIN_LONG): 1; element(0, 0): MIN_LONG; putElement(0, 0, 9007199254740993): 1",
                "element(0, 0): 9007199254740993");
        s.fresh("promise 43: doubles", "allocate(0, 3, 1): 1; putElement(0, 0, 9007199254740993): 1",
                "element(0, 0): 9007199254740992; putElement(0, 0, 9007199254740995): 1",
                "element(0, 0): 9007199254740996; putElement(0, 0, MAX_LONG): 1; element(0, 0): MAX_LONG",
                "putElement(0, 0, MIN_LONG): 1; element(0, 0): MIN_LONG; putElement(0, 0, -5): 1; element(0, 0): -5");
    }

    private static void element(Script s) {
        s.fresh("promise 44: no value", "element(0, 0): NO_VALUE; element(-1, 0): NO_VALUE; element(4, 0): NO_VALUE",
                "element(MIN_INT, 0): NO_VALUE; element(MAX_INT, 0): NO_VALUE; allocate(0, 1, 2): 2",
                "element(0, -1): NO_VALUE; element(0, 2): NO_VALUE; element(0, MIN_INT): NO_VALUE",
                "element(0, MAX_INT): NO_VALUE; element(0, 1): 0; element(1, 0): NO_VALUE");
        s.fresh("promise 44: fractions, infinite scores and NaN", "reset(3): 3; addIntervals(): 6",
                "setScore(0, 7, 2): 0; setScore(1, -7, 2): 0; setScore(2, 1, 0): 0; setScore(3, -1, 0): 0",
                "setScore(4, 0, -1): 0; allocate(0, 3, 6): 6; putElement(0, 5, 8): 1; storeScores(0): 6",
                "element(0, 0): 3; element(0, 1): -3; element(0, 2): MAX_LONG; element(0, 3): MIN_LONG",
                "element(0, 4): 0; element(0, 5): 0");
    }

    private static void copyErrors(Script s) {
        s.fresh("promise 45: the order of checks", "copyElements(-1, -1, 0, -1, -1): BAD_ARGUMENT",
                "copyElements(0, 0, 4, 0, 0): BAD_ARGUMENT; copyElements(MAX_INT, 0, MIN_INT, 0, 0): BAD_ARGUMENT",
                "copyElements(0, 0, 1, 0, 0): EMPTY_SLOT; allocate(0, 1, 4): 4; copyElements(0, -1, 1, 0, 1): EMPTY_SLOT",
                "copyElements(1, 0, 0, 0, -1): EMPTY_SLOT; copyElements(0, 0, 4, 0, 1): BAD_ARGUMENT",
                "copyElements(-1, 0, 1, 0, 1): BAD_ARGUMENT; allocate(1, 2, 4): 4; allocate(2, 1, 2): 2",
                "copyElements(0, -1, 1, 0, 1): WRONG_TYPE; copyElements(0, 0, 1, 0, 0): WRONG_TYPE",
                "copyElements(1, 0, 0, 0, 99): WRONG_TYPE");
        s.fresh("promise 45: ranges", "allocate(0, 1, 4): 4; allocate(2, 1, 2): 2",
                "copyElements(0, -1, 2, 0, 1): INDEX_OUT_OF_RANGE; copyElements(0, 0, 2, -1, 1): INDEX_OUT_OF_RANGE",
                "copyElements(0, 0, 2, 0, -1): INDEX_OUT_OF_RANGE; copyElements(0, 0, 2, 0, 3): INDEX_OUT_OF_RANGE",
                "copyElements(2, 0, 0, 0, 3): INDEX_OUT_OF_RANGE; copyElements(0, 3, 2, 0, 2): INDEX_OUT_OF_RANGE",
                "copyElements(0, 0, 2, 1, 2): INDEX_OUT_OF_RANGE; copyElements(0, 4, 2, 2, 0): 0",
                "copyElements(0, 5, 2, 0, 0): INDEX_OUT_OF_RANGE; copyElements(0, 0, 2, 3, 0): INDEX_OUT_OF_RANGE",
                "copyElements(0, 1, 2, 1, MAX_INT): INDEX_OUT_OF_RANGE; copyElements(0, MAX_INT, 2, 0, 1): INDEX_OUT_OF_RANGE",
                "copyElements(0, 0, 2, MAX_INT, MAX_INT): INDEX_OUT_OF_RANGE; copyElements(0, 0, 2, 0, MIN_INT): INDEX_OUT_OF_RANGE",
                "copyElements(0, MIN_INT, 2, 0, 1): INDEX_OUT_OF_RANGE; copyElements(0, 2, 2, 0, 2): 2");
    }

    private static void copies(Script s) {
        for (int type = 0; type < 4; type++) {
            s.fresh("promise 45: between arrays of type " + type,
                    "allocate(0, " + type + ", 4): 4; allocate(3, " + type + ", 3): 3; putElement(0, 0, 1): 1",
                    "putElement(0, 1, 2): 1; putElement(0, 2, 3): 1; putElement(0, 3, 4): 1; putElement(3, 0, 9): 1",
                    "copyElements(0, 2, 3, 1, 2): 2; element(3, 0): 9; element(3, 1): 3; element(3, 2): 4",
                    "element(0, 2): 3; copyElements(0, 0, 0, 1, 3): 3; element(0, 0): 1; element(0, 1): 1",
                    "element(0, 2): 2; element(0, 3): 3; copyElements(0, 1, 0, 0, 3): 3; element(0, 0): 1",
                    "element(0, 1): 2; element(0, 2): 3; element(0, 3): 3; element(3, 1): 3");
        }
        s.fresh("promise 45: doubles keep what a long would lose", "addConcept(0): 0; setScore(0, 1, 0): 0",
                "allocate(0, 3, 1): 1; allocate(1, 3, 1): 1; storeScores(0): 1; copyElements(0, 0, 1, 0, 1): 1",
                "element(1, 0): MAX_LONG; setScore(0, 0, 0): 0; storeScores(0): 1; copyElements(0, 0, 1, 0, 1): 1",
                "element(1, 0): 0");
    }

    private static void loadClass(Script s) {
        s.fresh("promise 46: the order of checks", "loadClass(-1): BAD_ARGUMENT; loadClass(4): BAD_ARGUMENT",
                "loadClass(MIN_INT): BAD_ARGUMENT; loadClass(MAX_INT): BAD_ARGUMENT; loadClass(0): EMPTY_SLOT",
                "addConcept(5): 0; addExample(0, 1): 1; allocate(0, 0, 2): 2; loadClass(0): WRONG_TYPE",
                "allocate(0, 2, 2): 2; loadClass(0): WRONG_TYPE; allocate(0, 3, 2): 2; loadClass(0): WRONG_TYPE",
                "concept(0): 5; example(0): 1");
        s.fresh("promise 46: what is read and what is skipped", "addConcept(5): 0; setScore(0, 1, 1): 0",
                "addExample(0, 1): 1; allocate(1, 1, 7): 7; putElement(1, 0, 6): 1; putElement(1, 1, 8): 1",
                "putElement(1, 2, -1): 1; putElement(1, 3, 7): 1; putElement(1, 4, 6): 1; putElement(1, 5, 65537): 1",
                "loadClass(1): 4; concept(0): 6; concept(1): 7; concept(2): 1; concept(3): 0; numberOf(5): NONE",
                "compareScores(0, 0): 3; clearSample(): 0; pointCount(): 3; element(1, 1): 8; addExample(0, 1): 1",
                "versionCount(): 2; version(0): 1; version(1): 2");
        s.fresh("promise 46: it stops at 20", "reset(8): 3; allocate(0, 1, 40): 40");
        for (int index = 0; index < 40; index++) {
            s.more("putElement(0, " + index + ", " + (200 - 2 * index) + "): 1");
        }
        s.more("putElement(0, 1, 200): 1; loadClass(0): 20; concept(0): 200; concept(1): 196; concept(19): 160",
                "numberOf(158): NONE; allocate(0, 1, 0): 0; loadClass(0): 0; conceptCount(): 0");
    }

    private static void storeScores(Script s) {
        s.fresh("promise 47: the order of checks", "storeScores(-1): BAD_ARGUMENT; storeScores(4): BAD_ARGUMENT",
                "storeScores(MIN_INT): BAD_ARGUMENT; storeScores(MAX_INT): BAD_ARGUMENT; storeScores(3): EMPTY_SLOT",
                "addConcept(1): 0; addConcept(2): 1; setScore(0, 5, 1): 0; setScore(1, 6, 1): 0; allocate(3, 2, 1): 1",
                "storeScores(3): WRONG_TYPE; allocate(3, 0, 5): 5; storeScores(3): WRONG_TYPE; allocate(3, 1, 0): 0",
                "storeScores(3): WRONG_TYPE; allocate(3, 3, 1): 1; putElement(3, 0, 9): 1",
                "storeScores(3): INDEX_OUT_OF_RANGE; element(3, 0): 9; allocate(3, 3, 0): 0",
                "storeScores(3): INDEX_OUT_OF_RANGE; allocate(3, 3, 3): 3; putElement(3, 2, 9): 1; storeScores(3): 2",
                "element(3, 0): 5; element(3, 1): 6; element(3, 2): 9");
        s.fresh("promise 47: no concepts", "allocate(0, 3, 0): 0; storeScores(0): 0; allocate(0, 3, 1): 1",
                "putElement(0, 0, 4): 1; storeScores(0): 0; element(0, 0): 4");
        s.fresh("promise 47: NaN takes the place of a number", "addConcept(1): 0; allocate(0, 3, 2): 2",
                "putElement(0, 0, 4): 1; putElement(0, 1, 5): 1; storeScores(0): 1; element(0, 0): 0; element(0, 1): 5");
    }

    private static void snapshots(Script s) {
        s.fresh("promises 48 and 49", "restore(): NONE; reset(4): 3; addConcept(9): 0; addConcept(3): 1",
                "setScore(1, 1, 3): 0; addExample(3, 1): 1; addExample(0, 1): 2; snapshot(): 2",
                "removeConcept(0): 1; setScore(0, 1, 4): 0; clearSample(): 2; reset(6): 4; addConcept(63): 0",
                "allocate(1, 2, 1): 1; putElement(1, 0, 12): 1; restore(): 2; pointCount(): 4; concept(0): 9",
                "concept(1): 3; setScore(1, 1, 3): 1; compareScores(0, 0): 3; example(0): 7; example(1): 1",
                "example(2): NONE; versionCount(): 1; version(0): 0; element(1, 0): 12; numberOf(63): NONE");
        s.fresh("promise 49: the snapshot stays, untouched by what comes after",
                "addConcept(1): 0; snapshot(): 1; addConcept(2): 1; setScore(0, 1, 1): 0; addExample(0, 0): 1",
                "restore(): 1; compareScores(0, 0): 3; clearSample(): 0; addConcept(4): 1; complementAll(): 2",
                "addExample(1, 1): 1; restore(): 1; concept(0): 1; concept(1): NO_SUCH_CONCEPT; clearSample(): 0",
                "restrict(1): 1; restore(): 1; pointCount(): 3; concept(0): 1");
        s.fresh("promises 48 and 49: everything is written over before the restore",
                "addConcept(1): 0; addConcept(2): 1; setScore(0, 1, 3): 0; setScore(1, 2, 3): 0; addExample(0, 0): 1",
                "addExample(2, 0): 2; snapshot(): 2; reset(5): 3; addConcept(31): 0; addConcept(30): 1",
                "addConcept(29): 2; setScore(0, 5, 1): 0; setScore(1, 0, 0): 0; addExample(4, 1): 1",
                "addExample(3, 1): 2; addExample(2, 1): 3; restore(): 2; example(0): 0; example(1): 4; example(2): NONE",
                "version(0): 1; versionCount(): 1; setScore(0, 1, 3): 1; setScore(1, 2, 3): 1; pointCount(): 3",
                "concept(0): 1; concept(1): 2; teachingSet(0): 1; queryDepth(): 0; majority(1): 1; halvingMistakes(0): 1");
        s.fresh("promise 48: a later snapshot replaces an earlier one, that of nothing too",
                "addConcept(1): 0; snapshot(): 1; reset(2): 3; snapshot(): 0; reset(5): 2; addConcept(1): 0",
                "restore(): 0; pointCount(): 2; conceptCount(): 0; restore(): 0");
    }
}
