/** Promises 1 to 12: the domain and the class. */
public final class ClassTest {
    public static void main(String[] args) {
        Script s = new Script("ClassTest");
        documentExamples(s);
        newObject(s);
        reset(s);
        addConcept(s);
        addIntervals(s);
        removeConcept(s);
        lookups(s);
        complementAll(s);
        restrict(s);
        isIntersectionClosed(s);
        lastOfManyCalls(s);
        s.end();
    }

    private static void documentExamples(Script s) {
        s.fresh("first example of the document",
                "addConcept(0): 0; addConcept(1): 1; addConcept(2): 2; addConcept(4): 3; teachingSet(0): 7",
                "teachingSet(1): 1; recursiveDimension(): 1; layer(0): 1; planSet(0): 0; addConcept(4): -5");
        s.fresh("second example of the document",
                "reset(4): 3; addIntervals(): 10; dimension(): 2; shatteredSet(2): 3; addExample(1, 1): 1",
                "addExample(2, 0): 2; versionCount(): 2; version(0): 1; bestQuery(): 0; decode(): 1");
        s.fresh("third example of the document",
                "addConcept(3): 0; addConcept(5): 1; setScore(0, 1, 2): 0; preferenceSet(0): 2",
                "setScore(1, 1, 4): 0; preferenceSet(0): 0; setScore(1, 0, 0): 0; compareScores(0, 1): 3",
                "preferenceSet(0): 2");
    }

    private static void newObject(Script s) {
        s.fresh("promise 1", "pointCount(): 3; conceptCount(): 0; versionCount(): 0; example(0): NONE",
                "restore(): NONE; release(0): 0; release(1): 0; release(2): 0; release(3): 0; clearSample(): 0");
    }

    private static void reset(Script s) {
        s.fresh("promise 2: range", "reset(0): BAD_ARGUMENT; reset(9): BAD_ARGUMENT; reset(-1): BAD_ARGUMENT",
                "reset(MIN_INT): BAD_ARGUMENT; reset(MAX_INT): BAD_ARGUMENT; pointCount(): 3",
                "reset(1): 3; reset(8): 1; reset(8): 8; pointCount(): 8");
        s.fresh("promise 2: a refused reset changes nothing",
                "addConcept(5): 0; addExample(0, 1): 1; reset(9): BAD_ARGUMENT; conceptCount(): 1; example(0): 1");
        s.fresh("promise 2: class and sample become empty, slots and snapshot stay",
                "addConcept(5): 0; addExample(0, 1): 1; allocate(2, 2, 1): 1; putElement(2, 0, 77): 1",
                "snapshot(): 1; reset(3): 3; conceptCount(): 0; numberOf(5): NONE; example(0): NONE",
                "clearSample(): 0; element(2, 0): 77; restore(): 1; concept(0): 5; example(0): 1");
        s.fresh("promise 2: nothing of the old class is left behind",
                "addConcept(7): 0; setScore(0, 1, 1): 0; reset(3): 3; addConcept(0): 0; compareScores(0, 0): 3",
                "addExample(1, 1): 1; versionCount(): 0");
    }

    private static void addConcept(Script s) {
        s.fresh("promise 4: range", "addConcept(-1): BAD_ARGUMENT; addConcept(8): BAD_ARGUMENT",
                "addConcept(MIN_INT): BAD_ARGUMENT; addConcept(MAX_INT): BAD_ARGUMENT; addConcept(7): 0",
                "addConcept(0): 1; addConcept(7): DUPLICATE; conceptCount(): 2; compareScores(1, 1): 3");
        s.fresh("promise 4: range at 1 and at 8 points", "reset(1): 3; addConcept(2): BAD_ARGUMENT",
                "addConcept(1): 0; reset(8): 1; addConcept(256): BAD_ARGUMENT; addConcept(255): 0");
        s.fresh("promise 4: the order of checks in a full class", "reset(8): 3");
        for (int number = 0; number < 20; number++) {
            s.more("addConcept(" + 3 * number + "): " + number);
        }
        s.more("addConcept(1): FULL; addConcept(57): DUPLICATE; addConcept(0): DUPLICATE",
                "addConcept(256): BAD_ARGUMENT; addConcept(-3): BAD_ARGUMENT; conceptCount(): 20",
                "concept(19): 57; removeConcept(3): 19; addConcept(1): 19; addConcept(2): FULL");
        s.fresh("promise 4: the score of a new concept is NaN where another's was",
                "addConcept(1): 0; setScore(0, 3, 1): 0; removeConcept(0): 0; addConcept(2): 0",
                "compareScores(0, 0): 3");
    }

    private static void addIntervals(Script s) {
        s.fresh("promise 5: order", "addIntervals(): 6; concept(0): 1; concept(1): 3; concept(2): 7; concept(3): 2",
                "concept(4): 6; concept(5): 4; addIntervals(): 0; conceptCount(): 6; compareScores(0, 0): 3");
        s.fresh("promise 5: what is there is skipped", "addConcept(5): 0; addConcept(6): 1; addConcept(1): 2",
                "addIntervals(): 4; concept(2): 1; concept(3): 3; concept(4): 7; concept(5): 2; concept(6): 4",
                "conceptCount(): 7");
        s.fresh("promise 5: it stops at 20 concepts", "reset(6): 3; addIntervals(): 20; concept(19): 48",
                "numberOf(32): NONE; addIntervals(): 0");
        s.fresh("promise 5: 8 points", "reset(8): 3; addConcept(0): 0; addIntervals(): 19; concept(1): 1",
                "concept(8): 255; concept(9): 2; concept(19): 60; conceptCount(): 20");
        s.fresh("promise 5: 1 point", "reset(1): 3; addIntervals(): 1; concept(0): 1");
    }

    private static void removeConcept(Script s) {
        s.fresh("promise 6", "removeConcept(0): NO_SUCH_CONCEPT; addConcept(1): 0; addConcept(2): 1; addConcept(4): 2",
                "setScore(0, 1, 1): 0; setScore(1, 2, 1): 0; setScore(2, 3, 1): 0",
                "removeConcept(3): NO_SUCH_CONCEPT; removeConcept(-1): NO_SUCH_CONCEPT",
                "removeConcept(MIN_INT): NO_SUCH_CONCEPT; removeConcept(MAX_INT): NO_SUCH_CONCEPT",
                "removeConcept(1): 2; concept(0): 1; concept(1): 4; concept(2): NO_SUCH_CONCEPT",
                "numberOf(2): NONE; numberOf(4): 1; setScore(1, 3, 1): 1; setScore(0, 1, 1): 1");
        s.fresh("promise 6: the last one, and the sample stays",
                "addConcept(1): 0; addConcept(2): 1; addExample(0, 1): 1; removeConcept(0): 1; example(0): 1",
                "versionCount(): 0; removeConcept(0): 0; removeConcept(0): NO_SUCH_CONCEPT");
        s.fresh("promise 6: the learners know the new numbers",
                "addConcept(1): 0; addConcept(2): 1; addConcept(6): 2; addExample(1, 1): 1; version(0): 1",
                "removeConcept(0): 2; version(0): 0; version(1): 1; teachingSet(0): 4");
    }

    private static void lookups(Script s) {
        s.fresh("promises 3, 7, 8, 9", "reset(5): 3; pointCount(): 5; conceptCount(): 0; concept(0): NO_SUCH_CONCEPT",
                "addConcept(21): 0; addConcept(0): 1; conceptCount(): 2; concept(0): 21; concept(1): 0",
                "concept(2): NO_SUCH_CONCEPT; concept(-1): NO_SUCH_CONCEPT; concept(MIN_INT): NO_SUCH_CONCEPT",
                "concept(MAX_INT): NO_SUCH_CONCEPT; numberOf(21): 0; numberOf(0): 1; numberOf(1): NONE",
                "numberOf(-1): NONE; numberOf(32): NONE; numberOf(MIN_INT): NONE; numberOf(MAX_INT): NONE");
    }

    private static void complementAll(Script s) {
        s.fresh("promise 10", "complementAll(): 0; reset(4): 3; addConcept(3): 0; addConcept(0): 1",
                "setScore(0, 1, 2): 0; addExample(0, 1): 1; version(0): 0; complementAll(): 2; concept(0): 12",
                "concept(1): 15; setScore(0, 1, 2): 1; compareScores(1, 1): 3; example(0): 1; version(0): 1",
                "versionCount(): 1; complementAll(): 2; concept(0): 3; concept(1): 0");
    }

    private static void restrict(Script s) {
        s.fresh("promise 11: wrong sets", "addConcept(5): 0; addExample(0, 1): 1; restrict(0): BAD_ARGUMENT",
                "restrict(-1): BAD_ARGUMENT; restrict(8): BAD_ARGUMENT; restrict(MIN_INT): BAD_ARGUMENT",
                "restrict(MAX_INT): BAD_ARGUMENT; pointCount(): 3; concept(0): 5; example(0): 1");
        s.fresh("promise 11: points are renumbered, equal concepts merge",
                "reset(4): 3; addConcept(2): 0; addConcept(10): 1; addConcept(3): 2; addConcept(8): 3",
                "addConcept(1): 4; setScore(0, 1, 1): 0; setScore(1, 2, 1): 0; setScore(2, 3, 1): 0",
                "setScore(3, 4, 1): 0; addExample(0, 0): 1; restrict(10): 4; pointCount(): 2",
                "concept(0): 1; concept(1): 3; concept(2): 2; setScore(0, 1, 1): 1; setScore(1, 2, 1): 1",
                "setScore(2, 4, 1): 1; clearSample(): 0; addConcept(4): BAD_ARGUMENT; concept(3): 0",
                "compareScores(3, 3): 3; concept(4): NO_SUCH_CONCEPT");
        s.fresh("promise 11: the whole domain empties the sample too",
                "addConcept(5): 0; setScore(0, 1, 1): 0; addExample(0, 1): 1; restrict(7): 1; clearSample(): 0",
                "pointCount(): 3; concept(0): 5; setScore(0, 1, 1): 1");
        s.fresh("promise 11: without concepts", "addExample(2, 1): 1; restrict(4): 0; pointCount(): 1",
                "clearSample(): 0; addExample(1, 0): NO_SUCH_POINT");
        s.fresh("promise 11: the learners know the new points",
                "reset(8): 3; addConcept(128): 0; addConcept(192): 1; addConcept(1): 2; restrict(192): 3",
                "concept(0): 2; concept(1): 3; concept(2): 0; addExample(0, 1): 1; version(0): 1",
                "versionCount(): 1; teachingSet(2): 2");
    }

    /** An object is used for at most 512 calls: the last of them is answered like the first. */
    private static void lastOfManyCalls(Script s) {
        s.fresh("promises 2, 4, 6, 20, 30, 32, 48 and 49: the 512th call");
        for (int round = 0; round < 51; round++) {
            s.more("reset(3): 3; addConcept(1): 0; addConcept(2): 1; addExample(0, 1): 1; snapshot(): 2",
                    "removeConcept(0): 1; layer(0): 0; restore(): 2; version(0): 0; clearSample(): 1");
        }
        s.more("queryDepth(): 1; bestQuery(): 0");
    }

    private static void isIntersectionClosed(Script s) {
        s.fresh("promise 12", "isIntersectionClosed(): 1; addConcept(3): 0; isIntersectionClosed(): 1",
                "addConcept(6): 1; isIntersectionClosed(): 0; addConcept(2): 2; isIntersectionClosed(): 1",
                "addConcept(1): 3; isIntersectionClosed(): 0; addConcept(0): 4; isIntersectionClosed(): 1",
                "removeConcept(2): 4; isIntersectionClosed(): 0");
    }
}
