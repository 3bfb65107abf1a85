/** Promises 13 to 24: teaching sets, the recursive plan, and preferences. */
public final class TeachingTest {
    public static void main(String[] args) {
        Script s = new Script("TeachingTest");
        isTeachingSet(s);
        teachingSet(s);
        teachingSetCount(s);
        dimensions(s);
        averages(s);
        plan(s);
        scores(s);
        preferences(s);
        s.end();
    }

    private static void isTeachingSet(Script s) {
        s.fresh("promise 13: wrong arguments", "isTeachingSet(0, 0): NO_SUCH_CONCEPT",
                "isTeachingSet(0, -1): NO_SUCH_CONCEPT; addConcept(3): 0; isTeachingSet(0, -1): BAD_ARGUMENT",
                "isTeachingSet(0, 8): BAD_ARGUMENT; isTeachingSet(0, MIN_INT): BAD_ARGUMENT",
                "isTeachingSet(0, MAX_INT): BAD_ARGUMENT; isTeachingSet(1, 8): NO_SUCH_CONCEPT",
                "isTeachingSet(-1, 8): NO_SUCH_CONCEPT; isTeachingSet(MAX_INT, 0): NO_SUCH_CONCEPT",
                "isTeachingSet(MIN_INT, 0): NO_SUCH_CONCEPT");
        s.fresh("promise 13: a lone concept needs nothing", "addConcept(3): 0; isTeachingSet(0, 0): 1",
                "isTeachingSet(0, 7): 1");
        s.fresh("promise 13", "addConcept(3): 0; addConcept(5): 1; addConcept(1): 2; isTeachingSet(0, 0): 0",
                "isTeachingSet(0, 1): 0; isTeachingSet(0, 2): 1; isTeachingSet(0, 3): 1; isTeachingSet(0, 4): 0",
                "isTeachingSet(1, 4): 1; isTeachingSet(1, 2): 0; isTeachingSet(2, 6): 1; isTeachingSet(2, 2): 0",
                "isTeachingSet(2, 4): 0; isTeachingSet(2, 7): 1");
    }

    private static void teachingSet(Script s) {
        s.fresh("promise 14", "teachingSet(0): NO_SUCH_CONCEPT; addConcept(6): 0; teachingSet(0): 0",
                "teachingSet(1): NO_SUCH_CONCEPT; teachingSet(-1): NO_SUCH_CONCEPT",
                "teachingSet(MIN_INT): NO_SUCH_CONCEPT; teachingSet(MAX_INT): NO_SUCH_CONCEPT",
                "addConcept(1): 1; teachingSet(0): 1; teachingSet(1): 1; addConcept(7): 2; teachingSet(0): 1",
                "teachingSet(1): 2; teachingSet(2): 3");
        s.fresh("promise 14: a smaller set goes before a lower one",
                "addConcept(0): 0; addConcept(5): 1; addConcept(6): 2; addConcept(7): 3; teachingSet(0): 4",
                "teachingSet(3): 3");
        s.fresh("promise 14: 8 points and the last point", "reset(8): 3; addConcept(0): 0; addConcept(128): 1",
                "teachingSet(0): 128; teachingSet(1): 128");
        s.fresh("promise 14: all points are needed", "reset(8): 3; addConcept(255): 0; addConcept(254): 1",
                "addConcept(253): 2; addConcept(251): 3; addConcept(247): 4; addConcept(239): 5",
                "addConcept(223): 6; addConcept(191): 7; addConcept(127): 8; teachingSet(0): 255",
                "teachingSet(8): 128; teachingDimension(0): 8; teachingDimension(1): 1");
    }

    private static void teachingSetCount(Script s) {
        s.fresh("promise 15: wrong arguments", "teachingSetCount(0, 9): NO_SUCH_CONCEPT; addConcept(1): 0",
                "teachingSetCount(0, 4): BAD_ARGUMENT; teachingSetCount(0, -1): BAD_ARGUMENT",
                "teachingSetCount(0, MIN_INT): BAD_ARGUMENT; teachingSetCount(0, MAX_INT): BAD_ARGUMENT",
                "teachingSetCount(1, 4): NO_SUCH_CONCEPT; teachingSetCount(-1, -1): NO_SUCH_CONCEPT");
        s.fresh("promise 15", "addConcept(1): 0; teachingSetCount(0, 0): 1; teachingSetCount(0, 1): 3",
                "teachingSetCount(0, 2): 3; teachingSetCount(0, 3): 1; addConcept(6): 1; teachingSetCount(0, 0): 0",
                "teachingSetCount(0, 1): 3; addConcept(7): 2; teachingSetCount(0, 1): 2",
                "teachingSetCount(2, 1): 0; teachingSetCount(2, 2): 2; teachingSetCount(2, 3): 1");
    }

    private static void dimensions(Script s) {
        s.fresh("promise 16", "teachingDimension(0): EMPTY; teachingDimension(1): EMPTY",
                "teachingDimension(2): BAD_ARGUMENT; teachingDimension(-1): BAD_ARGUMENT",
                "teachingDimension(MIN_INT): BAD_ARGUMENT; teachingDimension(MAX_INT): BAD_ARGUMENT",
                "addConcept(0): 0; teachingDimension(0): 0; teachingDimension(1): 0",
                "teachingDimension(2): BAD_ARGUMENT; addConcept(1): 1; addConcept(2): 2",
                "teachingDimension(0): 2; teachingDimension(1): 1");
    }

    private static void averages(Script s) {
        s.fresh("promise 17", "averageDimension(0): EMPTY; averageDimension(1): EMPTY",
                "averageDimension(2): BAD_ARGUMENT; averageDimension(-1): BAD_ARGUMENT",
                "averageDimension(MIN_INT): BAD_ARGUMENT; averageDimension(MAX_INT): BAD_ARGUMENT",
                "addConcept(0): 0; averageDimension(0): 0; averageDimension(1): 1; addConcept(1): 1",
                "averageDimension(0): 1; averageDimension(1): 1; addConcept(2): 2; averageDimension(0): 4",
                "averageDimension(1): 3; averageDimension(2): BAD_ARGUMENT; addConcept(4): 3",
                "averageDimension(0): 3; averageDimension(1): 2");
    }

    private static void plan(Script s) {
        s.fresh("promises 18 to 21: the empty class", "recursiveDimension(): EMPTY; layerCount(): 0",
                "layer(0): NO_SUCH_CONCEPT; planSet(0): NO_SUCH_CONCEPT");
        s.fresh("promises 18 to 21: one concept", "addConcept(5): 0; recursiveDimension(): 0; layerCount(): 1",
                "layer(0): 0; planSet(0): 0; layer(1): NO_SUCH_CONCEPT; layer(-1): NO_SUCH_CONCEPT",
                "layer(MIN_INT): NO_SUCH_CONCEPT; layer(MAX_INT): NO_SUCH_CONCEPT; planSet(1): NO_SUCH_CONCEPT",
                "planSet(-1): NO_SUCH_CONCEPT; planSet(MIN_INT): NO_SUCH_CONCEPT; planSet(MAX_INT): NO_SUCH_CONCEPT");
        // 0, 1, 3, 7 is a chain: both ends need one point, and so do those between when the ends are gone.
        s.fresh("promises 18 to 21: a chain peels from both ends",
                "addConcept(1): 0; addConcept(0): 1; addConcept(7): 2; addConcept(3): 3; layer(1): 0; layer(2): 0",
                "layer(0): 1; layer(3): 1; planSet(1): 1; planSet(2): 4; planSet(0): 2; planSet(3): 2",
                "layerCount(): 2; recursiveDimension(): 1; teachingDimension(0): 2");
        s.fresh("promises 18 to 21: five in a chain",
                "reset(4): 3; addConcept(0): 0; addConcept(1): 1; addConcept(3): 2; addConcept(7): 3",
                "addConcept(15): 4; layerCount(): 3; layer(2): 2; planSet(2): 0; layer(1): 1; layer(3): 1",
                "planSet(1): 2; planSet(3): 4; recursiveDimension(): 1");
        s.fresh("promises 18 to 21: all sets of two points form one layer",
                "reset(2): 3; addConcept(0): 0; addConcept(1): 1; addConcept(2): 2; addConcept(3): 3",
                "layerCount(): 1; recursiveDimension(): 2; planSet(0): 3; planSet(3): 3; layer(3): 0");
        // The layers' sizes may grow: 8 alone needs one point, the cube that is left needs three.
        s.fresh("promises 18 to 21: a later layer may need more",
                "reset(4): 3; addConcept(0): 0; addConcept(1): 1; addConcept(2): 2; addConcept(3): 3",
                "addConcept(4): 4; addConcept(5): 5; addConcept(6): 6; addConcept(7): 7; addConcept(8): 8",
                "recursiveDimension(): 3; layerCount(): 2; layer(8): 0; planSet(8): 8; layer(0): 1; planSet(0): 7",
                "removeConcept(8): 8; layerCount(): 1; layer(0): 0");
        s.fresh("promise 18: each answer is of the class as it is",
                "reset(2): 3; addConcept(0): 0; addConcept(1): 1; addConcept(2): 2; addConcept(3): 3",
                "recursiveDimension(): 2; removeConcept(3): 3; recursiveDimension(): 1; removeConcept(2): 2",
                "removeConcept(1): 1; recursiveDimension(): 0");
        s.fresh("promises 18 to 21: the plan follows every change of the class",
                "layerCount(): 0; addConcept(0): 0; layerCount(): 1; addConcept(1): 1; planSet(0): 1; addConcept(2): 2",
                "layerCount(): 2; layer(0): 1; snapshot(): 3; complementAll(): 3; planSet(1): 1; layer(0): 1",
                "addConcept(0): 3; layer(0): 2; planSet(3): 4; removeConcept(3): 3; layer(0): 1; restrict(2): 2",
                "layerCount(): 1; planSet(0): 1; recursiveDimension(): 1; restore(): 3; layerCount(): 2; layer(0): 1",
                "allocate(0, 1, 1): 1; loadClass(0): 1; layerCount(): 1; planSet(0): 0; addIntervals(): 6",
                "layerCount(): 3; reset(3): 3; layerCount(): 0; addIntervals(): 6; layer(0): 0; addConcept(0): 6",
                "layer(0): 0; layer(6): 1");
        s.fresh("promise 19: asked alone", "addConcept(0): 0; addConcept(1): 1; addConcept(2): 2; layerCount(): 2");
        s.fresh("promise 20: asked alone", "addConcept(0): 0; addConcept(1): 1; addConcept(2): 2; layer(0): 1");
        s.fresh("promise 21: asked alone", "addConcept(0): 0; addConcept(1): 1; addConcept(2): 2; planSet(2): 2");
        s.fresh("promises 18 to 21: the sample does not matter",
                "addConcept(0): 0; addConcept(1): 1; addConcept(2): 2; addConcept(4): 3; addExample(0, 0): 1",
                "addExample(0, 1): 2; layerCount(): 2; layer(0): 1; planSet(3): 4; recursiveDimension(): 1");
    }

    private static void scores(Script s) {
        s.fresh("promise 22: wrong numbers", "setScore(0, 1, 1): NO_SUCH_CONCEPT; addConcept(0): 0",
                "setScore(1, 1, 1): NO_SUCH_CONCEPT; setScore(-1, 1, 0): NO_SUCH_CONCEPT",
                "setScore(MIN_INT, 0, 0): NO_SUCH_CONCEPT; setScore(MAX_INT, 0, 0): NO_SUCH_CONCEPT");
        s.fresh("promise 22: equal by ==", "addConcept(0): 0; setScore(0, 1, 2): 0; setScore(0, 1, 2): 1",
                "setScore(0, 2, 4): 1; setScore(0, 1, 3): 0; setScore(0, 0, 0): 0; setScore(0, 0, 0): 0",
                "setScore(0, 1, 3): 0; setScore(0, 0, 5): 0; setScore(0, 0, -5): 1; setScore(0, 0, 7): 1",
                "setScore(0, 1, 0): 0; setScore(0, MAX_INT, 0): 1; setScore(0, -1, 0): 0",
                "setScore(0, MIN_INT, 0): 1; setScore(0, MIN_INT, -1): 0; setScore(0, MAX_INT, 1): 0");
        s.fresh("promise 22: 0 by something is a number", "addConcept(0): 0; setScore(0, 0, 1): 0",
                "setScore(0, 0, 1): 1; compareScores(0, 0): 1");
        s.fresh("promise 22: the division is of doubles", "addConcept(0): 0; addConcept(1): 1; setScore(0, 1, 3): 0",
                "setScore(1, 333333333, 1000000000): 0; compareScores(0, 1): 2",
                "setScore(0, MIN_INT, -1): 0; setScore(1, MAX_INT, 1): 0; compareScores(0, 1): 2");
        s.fresh("promise 23: wrong numbers", "compareScores(0, 0): NO_SUCH_CONCEPT; addConcept(0): 0",
                "compareScores(0, 1): NO_SUCH_CONCEPT; compareScores(1, 0): NO_SUCH_CONCEPT",
                "compareScores(-1, 0): NO_SUCH_CONCEPT; compareScores(0, MIN_INT): NO_SUCH_CONCEPT",
                "compareScores(MAX_INT, 0): NO_SUCH_CONCEPT; compareScores(0, 0): 3");
        s.fresh("promise 23", "addConcept(0): 0; addConcept(1): 1; compareScores(0, 1): 3; setScore(0, 1, 2): 0",
                "compareScores(0, 1): 3; compareScores(1, 0): 3; setScore(1, 2, 3): 0; compareScores(0, 1): 0",
                "compareScores(1, 0): 2; compareScores(0, 0): 1; setScore(1, 3, 6): 0; compareScores(0, 1): 1",
                "setScore(0, 0, 1): 0; setScore(1, 0, -1): 0; compareScores(0, 1): 1; setScore(0, 1, 0): 0",
                "compareScores(0, 1): 2; setScore(1, -1, 0): 0; compareScores(1, 0): 0; compareScores(1, 1): 1",
                "setScore(1, 5, 0): 0; compareScores(0, 1): 1; setScore(1, 0, 0): 0; compareScores(0, 1): 3");
    }

    private static void preferences(Script s) {
        s.fresh("promise 24: wrong numbers", "preferenceSet(0): NO_SUCH_CONCEPT; addConcept(3): 0",
                "preferenceSet(1): NO_SUCH_CONCEPT; preferenceSet(-1): NO_SUCH_CONCEPT",
                "preferenceSet(MIN_INT): NO_SUCH_CONCEPT; preferenceSet(MAX_INT): NO_SUCH_CONCEPT",
                "preferenceSet(0): 0");
        s.fresh("promise 24: only lesser scores are passed over",
                "addConcept(0): 0; addConcept(1): 1; addConcept(2): 2; preferenceSet(0): 3; setScore(0, 1, 1): 0",
                "preferenceSet(0): 3; setScore(1, 1, 2): 0; preferenceSet(0): 2; setScore(2, 1, 1): 0",
                "preferenceSet(0): 2; setScore(2, 1, 0): 0; preferenceSet(0): 2; setScore(2, -1, 0): 0",
                "preferenceSet(0): 0; preferenceSet(1): 1; preferenceSet(2): 2");
        s.fresh("promise 24: the first concept may be the lesser one",
                "addConcept(1): 0; addConcept(0): 1; setScore(0, 1, 2): 0; setScore(1, 1, 1): 0; preferenceSet(1): 0",
                "preferenceSet(0): 1");
        s.fresh("promise 24: 0.0 is not less than -0.0, nor the other way",
                "addConcept(0): 0; addConcept(1): 1; setScore(0, 0, 1): 0; setScore(1, 0, -1): 0",
                "preferenceSet(0): 1; preferenceSet(1): 1");
        s.fresh("promise 24: a smaller set goes before a lower one",
                "addConcept(0): 0; addConcept(5): 1; addConcept(6): 2; addConcept(1): 3; preferenceSet(0): 3",
                "setScore(0, 1, 1): 0; setScore(3, 0, 1): 0; preferenceSet(0): 4");
        s.fresh("promise 24: the scores move with their concepts",
                "addConcept(4): 0; addConcept(0): 1; addConcept(1): 2; setScore(1, 2, 1): 0; setScore(2, 1, 1): 0",
                "preferenceSet(1): 4; removeConcept(0): 2; preferenceSet(0): 0; preferenceSet(1): 1");
    }
}
