/** The sentences of promises 1 to 12. */
final class ClassBoundaries {
    private ClassBoundaries() { }

    static void test(Sentences s) {
        beginning(s);
        addConcept(s);
        addIntervals(s);
        removeConcept(s);
        lookups(s);
        complementAll(s);
        restrict(s);
        isIntersectionClosed(s);
    }

    private static void beginning(Sentences s) {
        s.promise(1, "Creates a calculator with 3 points and an empty class", "what is there and what is not",
                "pointCount(): 3; conceptCount(): 0; concept(0): NO_SUCH_CONCEPT; reset(3): 3");
        s.promise(2, "Sets the number of points", "from the least to the most and back",
                "reset(1): 3; pointCount(): 1; reset(8): 1; pointCount(): 8; reset(1): 8; pointCount(): 1");
        s.promise(2, "The class and the sample become empty", "a full class and a full sample",
                "reset(8): 3; addIntervals(): 20; addExamples(0, 255): 8; addExamples(0, 15): 12; reset(8): 8",
                "conceptCount(): 0; concept(0): NO_SUCH_CONCEPT; clearSample(): 0; example(0): NONE");
        s.promise(2, "The class and the sample become empty", "by the same number of points too",
                "addConcept(1): 0; setScore(0, 1, 1): 0; addExample(0, 1): 1; reset(3): 3; conceptCount(): 0",
                "clearSample(): 0; addConcept(1): 0; compareScores(0, 0): 3");
        s.promise(2, "The array slots and the snapshot stay", "the slots",
                "allocate(0, 0, 1): 1; allocate(3, 3, 1): 1; putElement(0, 0, 5): 1; putElement(3, 0, 6): 1",
                "reset(8): 3; element(0, 0): 5; element(3, 0): 6; release(1): 0; release(0): 1; release(3): 1");
        s.promise(2, "The array slots and the snapshot stay", "the snapshot",
                "addConcept(5): 0; setScore(0, 1, 2): 0; addExample(2, 1): 1; snapshot(): 1; reset(1): 3; restore(): 1",
                "pointCount(): 3; concept(0): 5; setScore(0, 1, 2): 1; example(0): 5");
        s.promise(2, "points: the number of points, 1 to 8", "1 and 8", "reset(1): 3; reset(8): 1");
        s.promise(2, "Returns the previous number of points", "not the new one", "reset(8): 3; reset(8): 8; reset(2): 8");
        String range = "BAD_ARGUMENT if the number is out of range";
        String begin = "addConcept(5): 0; setScore(0, 1, 1): 0; addExample(0, 1): 1; snapshot(): 1";
        s.promise(2, range, "too small", begin, "reset(0): BAD_ARGUMENT; reset(-1): BAD_ARGUMENT",
                "reset(MIN_INT): BAD_ARGUMENT; pointCount(): 3; concept(0): 5; example(0): 1");
        s.promise(2, range, "too large", begin, "reset(9): BAD_ARGUMENT; reset(32): BAD_ARGUMENT",
                "reset(MAX_INT): BAD_ARGUMENT; pointCount(): 3; concept(0): 5; example(0): 1");
        s.promise(3, "Returns the number of points", "after each call that sets it",
                "pointCount(): 3; reset(8): 3; pointCount(): 8; snapshot(): 0; restrict(129): 0; pointCount(): 2",
                "restore(): 0; pointCount(): 8; allocate(0, 1, 1): 1; loadClass(0): 1; pointCount(): 8");
        s.promise(3, "Returns m", "a refused reset", "reset(9): BAD_ARGUMENT; pointCount(): 3");
    }

    private static void addConcept(Sentences s) {
        s.promise(4, "Adds a concept to the class", "to an empty class and to one with 19 concepts",
                "addConcept(0): 0; concept(0): 0; reset(8): 3; addIntervals(): 20; removeConcept(19): 19",
                "addConcept(0): 19; concept(19): 0; conceptCount(): 20");
        s.promise(4, "Its score is NaN", "where a removed concept's score was a number",
                "addConcept(1): 0; setScore(0, 3, 1): 0; removeConcept(0): 0; addConcept(1): 0; compareScores(0, 0): 3",
                "setScore(0, 0, 1): 0");
        s.promise(4, "Its score is NaN", "the others keep theirs",
                "addConcept(1): 0; setScore(0, 1, 3): 0; addConcept(2): 1; compareScores(1, 1): 3; setScore(0, 1, 3): 1");
        s.promise(4, "concept: the concept as a set of points, 0 to 2^m - 1", "the least and the largest set",
                "addConcept(0): 0; addConcept(7): 1; reset(1): 3; addConcept(0): 0; addConcept(1): 1; reset(8): 1",
                "addConcept(0): 0; addConcept(255): 1");
        s.promise(4, "Returns its number", "0 first", "addConcept(7): 0; addConcept(0): 1; removeConcept(0): 1",
                "addConcept(3): 1");
        String range = "BAD_ARGUMENT if it is out of range (checked first)";
        s.promise(4, range, "too small", "addConcept(-1): BAD_ARGUMENT; addConcept(MIN_INT): BAD_ARGUMENT",
                "conceptCount(): 0; addConcept(-8): BAD_ARGUMENT");
        s.promise(4, range, "too large", "addConcept(8): BAD_ARGUMENT; addConcept(MAX_INT): BAD_ARGUMENT",
                "reset(1): 3; addConcept(2): BAD_ARGUMENT; reset(8): 1; addConcept(256): BAD_ARGUMENT; conceptCount(): 0");
        s.promise(4, range, "before FULL", "reset(8): 3; addIntervals(): 20; addConcept(256): BAD_ARGUMENT",
                "addConcept(-1): BAD_ARGUMENT");
        s.promise(4, "DUPLICATE (checked second)", "the concept is in the class", "addConcept(0): 0; addConcept(5): 1",
                "setScore(0, 1, 1): 0; addConcept(0): DUPLICATE; addConcept(5): DUPLICATE; conceptCount(): 2",
                "setScore(0, 1, 1): 1");
        s.promise(4, "DUPLICATE (checked second)", "before FULL",
                "reset(8): 3; addIntervals(): 20; addConcept(1): DUPLICATE; addConcept(124): DUPLICATE");
        s.promise(4, "DUPLICATE (checked second)", "no longer when it is removed",
                "addConcept(5): 0; removeConcept(0): 0; addConcept(5): 0; complementAll(): 1; addConcept(5): 1");
        s.promise(4, "FULL if the class has 20 concepts", "the 20th and the 21st",
                "reset(8): 3; addIntervals(): 20; removeConcept(0): 19; addConcept(0): 19; addConcept(1): FULL",
                "conceptCount(): 20; numberOf(1): NONE; removeConcept(19): 19; addConcept(1): 19");
    }

    private static void addIntervals(Sentences s) {
        String all = "Adds all intervals as concepts: for each pair of points i and j with i at most j, in ascending order"
                + " of i, then of j, the concept that consists of the points i to j";
        s.promise(5, all, "one point", "reset(1): 3; addIntervals(): 1; concept(0): 1; concept(1): NO_SUCH_CONCEPT");
        s.promise(5, all, "three points", "addIntervals(): 6; concept(0): 1; concept(1): 3; concept(2): 7; concept(3): 2",
                "concept(4): 6; concept(5): 4; concept(6): NO_SUCH_CONCEPT; compareScores(5, 5): 3");
        s.promise(5, all, "five points, the most whose intervals all fit",
                "reset(5): 3; addIntervals(): 15; concept(4): 31; concept(5): 2; concept(8): 30; concept(14): 16");
        s.promise(5, "Intervals that are in the class already are skipped", "some of them",
                "addConcept(3): 0; addConcept(4): 1; setScore(0, 1, 1): 0; addIntervals(): 4; concept(0): 3; concept(1): 4",
                "concept(2): 1; concept(3): 7; concept(4): 2; concept(5): 6; setScore(0, 1, 1): 1");
        s.promise(5, "Intervals that are in the class already are skipped", "all of them",
                "addIntervals(): 6; setScore(5, 1, 1): 0; addIntervals(): 0; conceptCount(): 6; setScore(5, 1, 1): 1");
        String stops = "The method stops when the class has 20 concepts";
        s.promise(5, stops, "six points have 21 intervals",
                "reset(6): 3; addIntervals(): 20; conceptCount(): 20; concept(19): 48; numberOf(32): NONE");
        s.promise(5, stops, "the class was full before",
                "reset(8): 3; addIntervals(): 20; removeConcept(0): 19; addConcept(0): 19; addIntervals(): 0",
                "numberOf(1): NONE; conceptCount(): 20");
        s.promise(5, stops, "room for one more",
                "reset(8): 3; addIntervals(): 20; removeConcept(19): 19; addIntervals(): 1; concept(19): 124");
        s.promise(5, stops, "just filled", "reset(5): 3; addConcept(0): 0; addConcept(5): 1; addConcept(9): 2",
                "addConcept(10): 3; addConcept(11): 4; addIntervals(): 15; conceptCount(): 20; concept(19): 16");
        s.promise(5, "Returns the number of concepts that were added", "not the number of concepts",
                "addConcept(0): 0; addConcept(1): 1; addIntervals(): 5; conceptCount(): 7");
    }

    private static void removeConcept(Sentences s) {
        String three = "addConcept(1): 0; addConcept(2): 1; addConcept(4): 2; setScore(0, 1, 1): 0; setScore(1, 2, 1): 0";
        s.promise(6, "Removes a concept from the class", "the first", three, "removeConcept(0): 2; numberOf(1): NONE");
        s.promise(6, "Removes a concept from the class", "the last", three, "removeConcept(2): 2; numberOf(4): NONE",
                "concept(1): 2; setScore(1, 2, 1): 1");
        s.promise(6, "Removes a concept from the class", "the only one", "addConcept(1): 0; removeConcept(0): 0",
                "numberOf(1): NONE; layerCount(): 0");
        s.promise(6, "The concepts after it are renumbered", "with their scores", three,
                "removeConcept(0): 2; concept(0): 2; concept(1): 4; setScore(0, 2, 1): 1; compareScores(1, 1): 3");
        s.promise(6, "The concepts after it are renumbered", "those before it are not", three,
                "removeConcept(1): 2; concept(0): 1; concept(1): 4; setScore(0, 1, 1): 1");
        s.promise(6, "The concepts after it are renumbered", "in a full class",
                "reset(8): 3; addIntervals(): 20; setScore(19, 1, 1): 0; removeConcept(0): 19; concept(18): 124",
                "setScore(18, 1, 1): 1; concept(19): NO_SUCH_CONCEPT");
        s.promise(6, "number: the number of the concept", "0 and the highest", "reset(8): 3; addIntervals(): 20",
                "removeConcept(19): 19; removeConcept(0): 18; concept(0): 3; concept(17): 60");
        s.promise(6, "Returns the number of concepts that are left", "down to 0",
                "addConcept(1): 0; addConcept(2): 1; removeConcept(0): 1; removeConcept(0): 0");
        s.promise(6, "NO_SUCH_CONCEPT", "too small", three, "removeConcept(-1): NO_SUCH_CONCEPT",
                "removeConcept(MIN_INT): NO_SUCH_CONCEPT; conceptCount(): 3");
        s.promise(6, "NO_SUCH_CONCEPT", "too large", three, "removeConcept(3): NO_SUCH_CONCEPT",
                "removeConcept(20): NO_SUCH_CONCEPT; removeConcept(MAX_INT): NO_SUCH_CONCEPT; conceptCount(): 3");
        s.promise(6, "NO_SUCH_CONCEPT", "an empty class", "removeConcept(0): NO_SUCH_CONCEPT; conceptCount(): 0");
        s.promise(6, "NO_SUCH_CONCEPT", "a full class",
                "reset(8): 3; addIntervals(): 20; removeConcept(20): NO_SUCH_CONCEPT; removeConcept(-1): NO_SUCH_CONCEPT");
    }

    private static void lookups(Sentences s) {
        s.promise(7, "Returns the number of concepts", "empty", "conceptCount(): 0");
        s.promise(7, "Returns the number of concepts", "full",
                "reset(8): 3; addIntervals(): 20; addConcept(0): FULL; conceptCount(): 20");
        s.promise(8, "Returns a concept as a set of points", "the empty set and the set of all points",
                "reset(8): 3; addConcept(0): 0; addConcept(255): 1; concept(0): 0; concept(1): 255");
        s.promise(8, "number: the number of the concept", "0 and the highest",
                "reset(8): 3; addIntervals(): 20; concept(0): 1; concept(19): 124");
        s.promise(8, "Returns the set", "as it is after a change", "addConcept(1): 0; complementAll(): 1; concept(0): 6",
                "restrict(6): 1; concept(0): 3");
        s.promise(8, "NO_SUCH_CONCEPT", "too small", "addConcept(1): 0; concept(-1): NO_SUCH_CONCEPT",
                "concept(MIN_INT): NO_SUCH_CONCEPT");
        s.promise(8, "NO_SUCH_CONCEPT", "too large", "addConcept(1): 0; concept(1): NO_SUCH_CONCEPT",
                "concept(20): NO_SUCH_CONCEPT; concept(MAX_INT): NO_SUCH_CONCEPT");
        s.promise(8, "NO_SUCH_CONCEPT", "an empty class", "concept(0): NO_SUCH_CONCEPT");
        s.promise(8, "NO_SUCH_CONCEPT", "a full class", "reset(8): 3; addIntervals(): 20; concept(20): NO_SUCH_CONCEPT");
        s.promise(9, "Returns the number of a concept", "the first and the last",
                "reset(8): 3; addIntervals(): 20; numberOf(1): 0; numberOf(124): 19");
        s.promise(9, "concept: the concept as a set of points", "the empty set and the set of all points",
                "addConcept(7): 0; numberOf(0): NONE; addConcept(0): 1; numberOf(0): 1; numberOf(7): 0");
        s.promise(9, "Returns its number in the class", "its number now",
                "addConcept(1): 0; addConcept(2): 1; removeConcept(0): 1; numberOf(2): 0");
        s.promise(9, "NONE if it is not in the class", "an empty class", "numberOf(0): NONE; numberOf(7): NONE");
        s.promise(9, "NONE if it is not in the class", "removed", "addConcept(1): 0; addConcept(2): 1",
                "removeConcept(1): 1; numberOf(2): NONE; removeConcept(0): 0; numberOf(1): NONE");
        s.promise(9, "NONE if it is not in the class", "too small and too large",
                "addConcept(0): 0; numberOf(-1): NONE; numberOf(8): NONE; numberOf(256): NONE; numberOf(MIN_INT): NONE",
                "numberOf(MAX_INT): NONE");
    }

    private static void complementAll(Sentences s) {
        s.promise(10, "Replaces each concept by its complement", "the empty set and the set of all points",
                "addConcept(0): 0; addConcept(7): 1; complementAll(): 2; concept(0): 7; concept(1): 0");
        s.promise(10, "Replaces each concept by its complement", "one point and eight points",
                "reset(1): 3; addConcept(0): 0; complementAll(): 1; concept(0): 1; reset(8): 1; addConcept(1): 0",
                "complementAll(): 1; concept(0): 254");
        s.promise(10, "Replaces each concept by its complement", "all 20 of a full class",
                "reset(8): 3; addIntervals(): 20; complementAll(): 20; concept(0): 254; concept(7): 0; concept(19): 131");
        s.promise(10, "The numbers and the scores stay", "infinite, finite and NaN",
                "addConcept(1): 0; addConcept(2): 1; addConcept(3): 2; setScore(0, 1, 0): 0; setScore(1, 1, 3): 0",
                "complementAll(): 3; numberOf(6): 0; numberOf(5): 1; numberOf(4): 2; compareScores(2, 2): 3",
                "setScore(0, 1, 0): 1; setScore(1, 1, 3): 1");
        s.promise(10, "Returns the number of concepts", "an empty class", "complementAll(): 0; conceptCount(): 0");
        s.promise(10, "Returns the number of concepts", "a full class", "reset(8): 3; addIntervals(): 20; complementAll(): 20");
    }

    private static void restrict(Sentences s) {
        s.promise(11, "Restricts the domain to a set of points", "to one point",
                "reset(8): 3; restrict(128): 0; pointCount(): 1; addConcept(2): BAD_ARGUMENT; addConcept(1): 0");
        s.promise(11, "Restricts the domain to a set of points", "to all points", "reset(8): 3; restrict(255): 0",
                "pointCount(): 8");
        s.promise(11, "The points of the set are renumbered in ascending order", "the lowest and the highest stay",
                "reset(8): 3; addConcept(1): 0; addConcept(128): 1; restrict(129): 2; concept(0): 1; concept(1): 2");
        s.promise(11, "The points of the set are renumbered in ascending order", "every second point",
                "reset(8): 3; addConcept(8): 0; addConcept(130): 1; restrict(170): 2; pointCount(): 4; concept(0): 2",
                "concept(1): 9");
        String equal = "Each concept is replaced by its intersection with the set; of concepts that become equal, the one"
                + " with the lowest number stays, with its score, and the others are removed";
        s.promise(11, equal, "all become equal", "addConcept(1): 0; addConcept(3): 1; addConcept(5): 2; setScore(0, 1, 4): 0",
                "setScore(1, 2, 1): 0; setScore(2, 3, 1): 0; restrict(1): 1; concept(0): 1; setScore(0, 1, 4): 1",
                "concept(1): NO_SUCH_CONCEPT");
        s.promise(11, equal, "none becomes equal", "addConcept(1): 0; addConcept(2): 1; setScore(1, 1, 1): 0; restrict(3): 2",
                "concept(0): 1; concept(1): 2; compareScores(0, 0): 3; setScore(1, 1, 1): 1");
        s.promise(11, equal, "the lowest number stays with NaN",
                "addConcept(4): 0; addConcept(0): 1; addConcept(6): 2; setScore(1, 1, 1): 0; setScore(2, 2, 1): 0",
                "restrict(3): 2; concept(0): 0; concept(1): 2; compareScores(0, 0): 3; setScore(1, 2, 1): 1");
        s.promise(11, equal, "the intersection is empty", "addConcept(6): 0; restrict(1): 1; concept(0): 0");
        s.promise(11, equal, "a full class becomes three concepts",
                "reset(8): 3; addIntervals(): 20; restrict(3): 4; concept(0): 1; concept(1): 3; concept(2): 2; concept(3): 0");
        s.promise(11, equal, "teaching, learning and shattering are by the new points",
                "reset(8): 3; addConcept(128): 0; addConcept(192): 1; addConcept(1): 2; layer(2): 0; restrict(192): 3",
                "teachingSet(0): 3; teachingSet(1): 1; teachingSet(2): 2; layer(0): 1; planSet(0): 0; dimension(): 1",
                "queryDepth(): 2; bestQuery(): 0; majority(1): 1; halvingMistakes(1): 1; addExample(0, 1): 1; version(0): 1",
                "versionCount(): 1");
        s.promise(11, "The sample becomes empty", "a full sample",
                "addConcept(1): 0; addExamples(0, 7): 3; addExamples(0, 7): 6; addExamples(0, 7): 9; addExamples(0, 7): 12",
                "restrict(7): 1; clearSample(): 0; addExample(2, 1): 1");
        s.promise(11, "set: the set of points, not empty", "the least and the largest set",
                "restrict(7): 0; pointCount(): 3; restrict(1): 0; pointCount(): 1; restrict(1): 0; pointCount(): 1");
        s.promise(11, "Returns the number of concepts that are left", "an empty class", "restrict(2): 0; conceptCount(): 0");
        s.promise(11, "Returns the number of concepts that are left", "not the number removed or that of points",
                "addConcept(0): 0; addConcept(1): 1; addConcept(2): 2; addConcept(3): 3; addConcept(4): 4; restrict(3): 4",
                "pointCount(): 2");
        String wrong = "BAD_ARGUMENT if the set is empty, negative, or has a point that does not exist";
        String begin = "addConcept(1): 0; addConcept(3): 1; setScore(0, 1, 1): 0; addExample(0, 1): 1; snapshot(): 2";
        s.promise(11, wrong, "empty", begin, "restrict(0): BAD_ARGUMENT; conceptCount(): 2; example(0): 1");
        s.promise(11, wrong, "negative", begin, "restrict(-1): BAD_ARGUMENT; restrict(MIN_INT): BAD_ARGUMENT; pointCount(): 3");
        s.promise(11, wrong, "a point that does not exist", begin,
                "restrict(8): BAD_ARGUMENT; restrict(9): BAD_ARGUMENT; restrict(MAX_INT): BAD_ARGUMENT; pointCount(): 3");
        s.promise(11, wrong, "a point that is no longer there",
                "restrict(6): 0; restrict(4): BAD_ARGUMENT; pointCount(): 2; restrict(2): 0");
    }

    private static void isIntersectionClosed(Sentences s) {
        String every = "Returns whether the intersection of every two concepts of the class is in the class";
        s.promise(12, every, "an empty class", "isIntersectionClosed(): 1");
        s.promise(12, every, "one concept", "addConcept(5): 0; isIntersectionClosed(): 1");
        s.promise(12, every, "an empty intersection", "addConcept(1): 0; addConcept(6): 1; isIntersectionClosed(): 0",
                "addConcept(0): 2; isIntersectionClosed(): 1");
        s.promise(12, every, "an intersection that is one of the two", "addConcept(1): 0; addConcept(3): 1; addConcept(7): 2",
                "isIntersectionClosed(): 1");
        s.promise(12, every, "the first and the last of a full class",
                "reset(8): 3; addIntervals(): 20; isIntersectionClosed(): 0; reset(5): 8; addConcept(0): 0",
                "addIntervals(): 15; isIntersectionClosed(): 1; addConcept(18): 16; isIntersectionClosed(): 1",
                "addConcept(21): 17; isIntersectionClosed(): 0");
        s.promise(12, "Returns 1 or 0", "both", "addConcept(3): 0; addConcept(6): 1; isIntersectionClosed(): 0",
                "addConcept(2): 2; isIntersectionClosed(): 1");
    }
}
