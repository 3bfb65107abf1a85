/** The sentences of promises 30 to 40. */
final class SampleBoundaries {
    private static final String FULL_CLASS = "reset(8): 3; addIntervals(): 20";
    /** Twelve examples, all of them right for concept 0. */
    private static final String FULL_SAMPLE = "addConcept(5): 0; addExamples(0, 7): 3; addExamples(0, 7): 6;"
            + "addExamples(0, 7): 9; addExamples(0, 7): 12";

    private SampleBoundaries() { }

    static void test(Sentences s) {
        addExample(s);
        addExamples(s);
        clearSample(s);
        example(s);
        versions(s);
        decode(s);
        majority(s);
        queryDepth(s);
        bestQuery(s);
        halvingMistakes(s);
    }

    private static void addExample(Sentences s) {
        s.promise(30, "Appends a labelled example to the sample", "to an empty sample and to one with 11 examples",
                "addExample(2, 1): 1; example(0): 5; clearSample(): 1; addConcept(0): 0; addExamples(0, 7): 3",
                "addExamples(0, 7): 6; addExamples(0, 7): 9; addExamples(0, 3): 11; addExample(2, 1): 12; example(11): 5");
        s.promise(30, "Appends a labelled example to the sample", "one that is there already, and one against it",
                "addExample(1, 1): 1; addExample(1, 1): 2; addExample(1, 0): 3; example(1): 3; example(2): 2");
        s.promise(30, "Appends a labelled example to the sample", "without concepts", "addExample(0, 0): 1; conceptCount(): 0");
        s.promise(30, "point: the point", "0 and m - 1", "addExample(0, 1): 1; addExample(2, 1): 2; reset(8): 3",
                "addExample(7, 1): 1; example(0): 15; reset(1): 8; addExample(0, 1): 1");
        s.promise(30, "label: the label, 0 or 1", "both", "addExample(0, 0): 1; addExample(0, 1): 2; example(0): 0",
                "example(1): 1");
        s.promise(30, "Returns the number of examples", "from 1 to 12", "addExample(0, 0): 1; addExample(0, 0): 2",
                "addExample(0, 0): 3; addExample(0, 0): 4; addExample(0, 0): 5; addExample(0, 0): 6; addExample(0, 0): 7",
                "addExample(0, 0): 8; addExample(0, 0): 9; addExample(0, 0): 10; addExample(0, 0): 11",
                "addExample(0, 0): 12; clearSample(): 12; addExample(0, 0): 1");
        String first = "NO_SUCH_POINT (checked first)";
        s.promise(30, first, "too small", "addExample(-1, 0): NO_SUCH_POINT; addExample(MIN_INT, 0): NO_SUCH_POINT",
                "clearSample(): 0");
        s.promise(30, first, "too large", "addExample(3, 0): NO_SUCH_POINT; addExample(MAX_INT, 0): NO_SUCH_POINT",
                "clearSample(): 0; reset(8): 3; addExample(8, 0): NO_SUCH_POINT; reset(1): 8",
                "addExample(1, 0): NO_SUCH_POINT");
        s.promise(30, first, "a wrong label too", "addExample(3, 2): NO_SUCH_POINT; addExample(-1, -1): NO_SUCH_POINT");
        s.promise(30, first, "a full sample too", FULL_SAMPLE, "addExample(3, 0): NO_SUCH_POINT; addExample(-1, 2): NO_SUCH_POINT");
        String second = "BAD_ARGUMENT if the label is out of range (checked second)";
        s.promise(30, second, "too small", "addExample(0, -1): BAD_ARGUMENT; addExample(0, MIN_INT): BAD_ARGUMENT",
                "clearSample(): 0");
        s.promise(30, second, "too large", "addExample(0, 2): BAD_ARGUMENT; addExample(2, MAX_INT): BAD_ARGUMENT",
                "clearSample(): 0");
        s.promise(30, second, "a full sample too", FULL_SAMPLE, "addExample(0, 2): BAD_ARGUMENT; addExample(0, -1): BAD_ARGUMENT");
        s.promise(30, "FULL if the sample has 12 examples", "the 12th and the 13th", "addConcept(0): 0; addExamples(0, 7): 3",
                "addExamples(0, 7): 6; addExamples(0, 7): 9; addExamples(0, 3): 11; addExample(0, 0): 12",
                "addExample(0, 1): FULL; addExample(2, 0): FULL; example(11): 0; example(12): NONE; versionCount(): 1");
    }

    private static void addExamples(Sentences s) {
        String appends = "Appends to the sample the examples of a concept for the points of a set, in ascending order, with"
                + " the labels by which the concept is consistent with them";
        s.promise(31, appends, "the empty set", "addConcept(5): 0; addExamples(0, 0): 0; example(0): NONE");
        s.promise(31, appends, "all points", "addConcept(5): 0; addExamples(0, 7): 3; example(0): 1; example(1): 2",
                "example(2): 5; example(3): NONE; versionCount(): 1");
        s.promise(31, appends, "eight points, behind other examples",
                "reset(8): 3; addConcept(129): 0; addExample(3, 1): 1; addExamples(0, 255): 9; example(0): 7; example(1): 1",
                "example(2): 2; example(4): 6; example(8): 15; versionCount(): 0");
        s.promise(31, appends, "some points", "addConcept(6): 0; addExamples(0, 5): 2; example(0): 0; example(1): 5");
        s.promise(31, "number: the number of the concept", "0 and the highest", FULL_CLASS,
                "addExamples(0, 3): 2; example(0): 1; example(1): 2; addExamples(19, 3): 4; example(2): 0; example(3): 2");
        s.promise(31, "set: the set of points", "0 and 2^m - 1", "addConcept(0): 0; addExamples(0, 0): 0; addExamples(0, 7): 3",
                "reset(1): 3; addConcept(1): 0; addExamples(0, 1): 1; example(0): 1");
        s.promise(31, "Returns the number of examples in the sample", "not of those appended",
                "addConcept(5): 0; addExample(0, 0): 1; addExamples(0, 6): 3; addExamples(0, 0): 3");
        String first = "NO_SUCH_CONCEPT (checked first)";
        s.promise(31, first, "too small", "addConcept(5): 0; addExamples(-1, 1): NO_SUCH_CONCEPT",
                "addExamples(MIN_INT, 1): NO_SUCH_CONCEPT; clearSample(): 0");
        s.promise(31, first, "too large", "addConcept(5): 0; addExamples(1, 1): NO_SUCH_CONCEPT",
                "addExamples(MAX_INT, 1): NO_SUCH_CONCEPT; clearSample(): 0");
        s.promise(31, first, "an empty class", "addExamples(0, 1): NO_SUCH_CONCEPT; addExamples(0, 0): NO_SUCH_CONCEPT");
        s.promise(31, first, "a wrong set too", "addConcept(5): 0; addExamples(1, 8): NO_SUCH_CONCEPT",
                "addExamples(-1, -1): NO_SUCH_CONCEPT");
        s.promise(31, first, "a full sample too", FULL_SAMPLE, "addExamples(1, 1): NO_SUCH_CONCEPT; addExamples(1, 8): NO_SUCH_CONCEPT");
        String second = "BAD_ARGUMENT if the set is negative or has a point that does not exist (checked second)";
        s.promise(31, second, "negative", "addConcept(5): 0; addExamples(0, -1): BAD_ARGUMENT",
                "addExamples(0, MIN_INT): BAD_ARGUMENT; clearSample(): 0");
        s.promise(31, second, "a point that does not exist", "addConcept(5): 0; addExamples(0, 8): BAD_ARGUMENT",
                "addExamples(0, 9): BAD_ARGUMENT; addExamples(0, MAX_INT): BAD_ARGUMENT; clearSample(): 0; reset(8): 3",
                "addConcept(5): 0; addExamples(0, 256): BAD_ARGUMENT");
        s.promise(31, second, "a full sample too", FULL_SAMPLE, "addExamples(0, 8): BAD_ARGUMENT; addExamples(0, -1): BAD_ARGUMENT");
        String full = "FULL if the sample would have more than 12 examples, in which case nothing is appended";
        s.promise(31, full, "one too many", "reset(8): 3; addConcept(170): 0; addExamples(0, 255): 8; addExamples(0, 31): FULL",
                "example(8): NONE; clearSample(): 8");
        s.promise(31, full, "just as many", "reset(8): 3; addConcept(170): 0; addExamples(0, 255): 8; addExamples(0, 15): 12",
                "example(11): 7");
        s.promise(31, full, "one more than 12", FULL_SAMPLE, "addExamples(0, 1): FULL; example(12): NONE; clearSample(): 12");
        s.promise(31, full, "none more than 12", FULL_SAMPLE, "addExamples(0, 0): 12");
    }

    private static void clearSample(Sentences s) {
        s.promise(32, "Empties the sample", "a full one", FULL_SAMPLE, "clearSample(): 12; example(0): NONE; addExample(0, 0): 1",
                "example(0): 0; example(1): NONE");
        s.promise(32, "Empties the sample", "an empty one", "clearSample(): 0; example(0): NONE; clearSample(): 0");
        s.promise(32, "Empties the sample", "the version space is the whole class again",
                "addConcept(1): 0; addExample(0, 0): 1; versionCount(): 0; clearSample(): 1; versionCount(): 1");
        s.promise(32, "Returns the number of examples it had", "0, 1 and 12", "clearSample(): 0; addExample(1, 1): 1",
                "clearSample(): 1", FULL_SAMPLE, "clearSample(): 12");
    }

    private static void example(Sentences s) {
        s.promise(33, "Returns an example of the sample", "the first and the last of 12", FULL_SAMPLE, "example(0): 1; example(11): 5");
        s.promise(33, "index: the index, from 0", "0", "addExample(2, 0): 1; addExample(1, 1): 2; example(0): 4; example(1): 3");
        s.promise(33, "Returns 2 times the point plus the label", "the least and the largest",
                "reset(8): 3; addExample(0, 0): 1; addExample(7, 1): 2; addExample(7, 0): 3; example(0): 0; example(1): 15",
                "example(2): 14");
        String none = "NONE if there is no such example";
        s.promise(33, none, "an empty sample", "example(0): NONE");
        s.promise(33, none, "too small", "addExample(0, 1): 1; example(-1): NONE; example(MIN_INT): NONE");
        s.promise(33, none, "too large", "addExample(0, 1): 1; example(1): NONE; example(MAX_INT): NONE");
        s.promise(33, none, "a full sample", FULL_SAMPLE, "example(12): NONE; example(-1): NONE; example(13): NONE");
        s.promise(33, none, "cleared", "addExample(0, 1): 1; addExample(0, 1): 2; clearSample(): 2; addExample(1, 1): 1",
                "example(1): NONE");
    }

    private static void versions(Sentences s) {
        s.promise(34, "Returns the number of concepts in the version space", "none of them",
                "addConcept(1): 0; addConcept(3): 1; addExample(0, 0): 1; versionCount(): 0");
        s.promise(34, "Returns the number of concepts in the version space", "all of a full class", FULL_CLASS,
                "versionCount(): 20; addExample(0, 1): 1; versionCount(): 8");
        s.promise(34, "Returns the number of concepts", "an empty class", "versionCount(): 0; addExample(0, 0): 1",
                "versionCount(): 0");
        s.promise(34, "Returns the number of concepts", "a full sample", FULL_SAMPLE, "addConcept(7): 1; versionCount(): 1");
        s.promise(35, "Returns a concept of the version space", "the last concept of the class alone", FULL_CLASS,
                "addExamples(19, 255): 8; version(0): 19; version(1): NONE");
        s.promise(35, "index: the index in ascending order of the numbers, from 0", "gaps between the numbers",
                "addConcept(4): 0; addConcept(1): 1; addConcept(5): 2; addConcept(2): 3; addConcept(3): 4",
                "addExample(0, 1): 1; version(0): 1; version(1): 2; version(2): 4; version(3): NONE");
        s.promise(35, "Returns the number of the concept", "not the concept", "addConcept(7): 0; addConcept(5): 1",
                "version(0): 0; version(1): 1");
        String none = "NONE if there is no such concept";
        s.promise(35, none, "an empty class", "version(0): NONE");
        s.promise(35, none, "an empty version space", "addConcept(0): 0; addExample(0, 1): 1; version(0): NONE");
        s.promise(35, none, "too small", "addConcept(0): 0; version(-1): NONE; version(MIN_INT): NONE");
        s.promise(35, none, "too large", "addConcept(0): 0; addConcept(1): 1; addExample(0, 1): 1; version(1): NONE",
                "version(2): NONE; version(MAX_INT): NONE");
        s.promise(35, none, "a full class", FULL_CLASS, "version(19): 19; version(20): NONE; version(-1): NONE");
    }

    private static void decode(Sentences s) {
        String lowest = "Returns the concept of the version space in the lowest layer of the recursive plan of the whole"
                + " class; among several, the one with the lowest number";
        String singles = "addConcept(0): 0; addConcept(1): 1; addConcept(2): 2; addConcept(4): 3";
        s.promise(36, lowest, "the lowest layer before the lowest number", singles, "decode(): 1");
        s.promise(36, lowest, "the plan of the whole class, not of the version space", singles,
                "addExample(0, 0): 1; addExample(1, 0): 2; versionCount(): 2; decode(): 3");
        s.promise(36, lowest, "several in the lowest layer", singles, "addExample(0, 0): 1; decode(): 2");
        s.promise(36, lowest, "none of layer 0 is left", singles,
                "addExample(0, 0): 1; addExample(1, 0): 2; addExample(2, 0): 3; decode(): 0");
        s.promise(36, "Returns the number of the concept", "the first and the last number",
                "addConcept(7): 0; decode(): 0; addConcept(6): 1; addExample(0, 0): 1; decode(): 1");
        s.promise(36, "Returns the number of the concept", "the last of a full class", FULL_CLASS,
                "addExamples(19, 255): 8; decode(): 19");
        String empty = "EMPTY if the version space is empty";
        s.promise(36, empty, "an empty class", "decode(): EMPTY; addExample(0, 0): 1; decode(): EMPTY");
        s.promise(36, empty, "no consistent concept", "addConcept(0): 0; addExample(0, 1): 1; decode(): EMPTY");
    }

    private static void majority(Sentences s) {
        s.promise(37, "Returns the label that the majority of the version space gives to a point",
                "of the version space, not of the class",
                "addConcept(1): 0; addConcept(3): 1; addConcept(5): 2; addConcept(2): 3; majority(2): 0; majority(0): 1",
                "addExample(0, 0): 1; majority(1): 1; majority(2): 0; majority(0): 0");
        s.promise(37, "point: the point", "0 and m - 1", "reset(8): 3; addConcept(128): 0; majority(7): 1; majority(0): 0",
                "reset(1): 8; addConcept(1): 0; majority(0): 1");
        String returns = "Returns 1 if more concepts of the version space contain the point than not, 0 if fewer, 2 if as many";
        s.promise(37, returns, "one more", "addConcept(1): 0; addConcept(3): 1; addConcept(2): 2; majority(0): 1");
        s.promise(37, returns, "one fewer", "addConcept(1): 0; addConcept(4): 1; addConcept(2): 2; majority(0): 0");
        s.promise(37, returns, "as many", "addConcept(1): 0; addConcept(2): 1; majority(0): 2; majority(1): 2; majority(2): 0");
        s.promise(37, returns, "all and none", "addConcept(1): 0; majority(0): 1; majority(1): 0");
        s.promise(37, returns, "ten of a full class", FULL_CLASS, "majority(0): 0; majority(2): 1; removeConcept(0): 19",
                "removeConcept(14): 18; addConcept(0): 18; addConcept(128): 19; majority(3): 1; majority(5): 0");
        String first = "NO_SUCH_POINT (checked first)";
        s.promise(37, first, "too small", "addConcept(1): 0; majority(-1): NO_SUCH_POINT; majority(MIN_INT): NO_SUCH_POINT");
        s.promise(37, first, "too large", "addConcept(1): 0; majority(3): NO_SUCH_POINT; majority(MAX_INT): NO_SUCH_POINT",
                "reset(8): 3; addConcept(1): 0; majority(8): NO_SUCH_POINT");
        s.promise(37, first, "an empty version space too", "majority(3): NO_SUCH_POINT; majority(-1): NO_SUCH_POINT",
                "addConcept(0): 0; addExample(0, 1): 1; majority(3): NO_SUCH_POINT");
        String empty = "EMPTY if the version space is empty";
        s.promise(37, empty, "an empty class", "majority(0): EMPTY; majority(2): EMPTY");
        s.promise(37, empty, "no consistent concept", "addConcept(0): 0; addExample(0, 1): 1; majority(0): EMPTY");
    }

    private static void queryDepth(Sentences s) {
        s.promise(38, "Returns the query depth of the version space", "not of the class",
                "addConcept(0): 0; addConcept(1): 1; addConcept(2): 2; queryDepth(): 2; addExample(0, 0): 1; queryDepth(): 1",
                "addExample(1, 0): 2; queryDepth(): 0");
        s.promise(38, "Returns the query depth of the version space", "a full class", FULL_CLASS, "queryDepth(): 5");
        s.promise(38, "Returns the query depth", "from 0", "addConcept(7): 0; queryDepth(): 0; addConcept(0): 1; queryDepth(): 1");
        s.promise(38, "Returns the query depth", "16 concepts in four queries", "reset(4): 3; addIntervals(): 10",
                "addConcept(0): 10; addConcept(5): 11; addConcept(9): 12; addConcept(10): 13; addConcept(11): 14",
                "addConcept(13): 15; queryDepth(): 4");
        s.promise(38, "Returns the query depth", "the same sets of concepts come back by other queries",
                "reset(8): 3; addConcept(0): 0; addConcept(3): 1; addConcept(5): 2; addConcept(9): 3; addConcept(17): 4",
                "addConcept(33): 5; addConcept(65): 6; addConcept(129): 7; addConcept(6): 8; addConcept(10): 9",
                "addConcept(18): 10; addConcept(34): 11; addConcept(66): 12; addConcept(130): 13; queryDepth(): 7",
                "bestQuery(): 0; complementAll(): 14; queryDepth(): 7; bestQuery(): 0");
        String empty = "EMPTY if the version space is empty";
        s.promise(38, empty, "an empty class", "queryDepth(): EMPTY; addExample(0, 0): 1; queryDepth(): EMPTY");
        s.promise(38, empty, "no consistent concept", "addConcept(0): 0; addExample(0, 1): 1; queryDepth(): EMPTY");
    }

    private static void bestQuery(Sentences s) {
        String best = "Returns the best first query for the version space: the lowest point by which the minimum in the"
                + " definition of the query depth is reached";
        s.promise(39, best, "several points reach it", "addConcept(0): 0; addConcept(6): 1; bestQuery(): 1");
        s.promise(39, best, "a lower point does not reach it",
                "addConcept(0): 0; addConcept(2): 1; addConcept(4): 2; addConcept(7): 3; queryDepth(): 2; bestQuery(): 1");
        s.promise(39, best, "a point that all or none contain does not reach it",
                "addConcept(1): 0; addConcept(5): 1; bestQuery(): 2");
        s.promise(39, best, "of the version space, not of the class",
                "addConcept(0): 0; addConcept(1): 1; addConcept(2): 2; bestQuery(): 0; addExample(0, 0): 1; bestQuery(): 1");
        s.promise(39, "Returns the point", "0 and 7", "addConcept(0): 0; addConcept(1): 1; bestQuery(): 0; reset(8): 3",
                "addConcept(0): 0; addConcept(128): 1; bestQuery(): 7");
        s.promise(39, "Returns the point", "a full class", FULL_CLASS, "bestQuery(): 0");
        // In each class seven queries may leave 127 and 255, which only the last point tells apart.
        s.promise(39, best, "two concepts that differ only in the last of eight points",
                "reset(8): 3; addConcept(255): 0; addConcept(127): 1; addConcept(31): 2; addConcept(105): 3; addConcept(23): 4",
                "addConcept(154): 5; addConcept(142): 6; addConcept(147): 7; queryDepth(): 3; bestQuery(): 7");
        s.promise(39, best, "two that differ only in the last point, and eight more",
                "reset(8): 3; addConcept(255): 0; addConcept(127): 1; addConcept(108): 2; addConcept(126): 3; addConcept(125): 4",
                "addConcept(88): 5; addConcept(223): 6; addConcept(247): 7; addConcept(52): 8; addConcept(191): 9",
                "queryDepth(): 5; bestQuery(): 0");
        s.promise(39, best, "two that differ only in the last point, where point 2 is the best",
                "reset(8): 3; addConcept(255): 0; addConcept(127): 1; addConcept(6): 2; addConcept(111): 3; addConcept(119): 4",
                "addConcept(123): 5; addConcept(63): 6; addConcept(108): 7; addConcept(254): 8; queryDepth(): 5",
                "bestQuery(): 2");
        String first = "EMPTY if the version space is empty (checked first)";
        s.promise(39, first, "an empty class", "bestQuery(): EMPTY; addExample(0, 0): 1; bestQuery(): EMPTY");
        s.promise(39, first, "no consistent concept", "addConcept(0): 0; addExample(0, 1): 1; bestQuery(): EMPTY");
        s.promise(39, "NONE if it has only one concept", "a class of one", "addConcept(5): 0; bestQuery(): NONE");
        s.promise(39, "NONE if it has only one concept", "one is left",
                "addConcept(5): 0; addConcept(4): 1; bestQuery(): 0; addExample(0, 1): 1; bestQuery(): NONE");
    }

    private static void halvingMistakes(Sentences s) {
        s.promise(40, "Simulates the halving algorithm", "one concept makes no mistake where it is the majority",
                "addConcept(7): 0; halvingMistakes(0): 0; reset(8): 3; addConcept(0): 0; halvingMistakes(0): 0");
        s.promise(40, "Simulates the halving algorithm", "a full class", FULL_CLASS, "halvingMistakes(0): 2; halvingMistakes(19): 2");
        String start = "Starting with the whole class, the points 0 to m - 1 are presented one after the other";
        s.promise(40, start, "the whole class, not the version space",
                "addConcept(0): 0; addConcept(1): 1; addExample(0, 1): 1; versionCount(): 1; halvingMistakes(1): 1");
        s.promise(40, start, "the last point counts", "reset(8): 3; addConcept(0): 0; addConcept(128): 1",
                "halvingMistakes(1): 1; halvingMistakes(0): 0");
        s.promise(40, start, "point 0 counts", "addConcept(0): 0; addConcept(1): 1; halvingMistakes(1): 1");
        s.promise(40, start, "in ascending order", "addConcept(0): 0; addConcept(3): 1; addConcept(7): 2; addConcept(6): 3",
                "halvingMistakes(0): 0; halvingMistakes(1): 1; halvingMistakes(2): 2; halvingMistakes(3): 1");
        String predicted = "For each point the label predicted is 1 if more of the remaining concepts contain the point than"
                + " not, and 0 otherwise";
        s.promise(40, predicted, "as many is 0", "addConcept(0): 0; addConcept(7): 1; halvingMistakes(0): 0; halvingMistakes(1): 1");
        s.promise(40, predicted, "one more is 1", "addConcept(0): 0; addConcept(1): 1; addConcept(5): 2; halvingMistakes(0): 1",
                "halvingMistakes(1): 0; halvingMistakes(2): 1");
        String mistake = "A prediction that differs from the label by the given concept is a mistake";
        s.promise(40, mistake, "0 for 1", "addConcept(0): 0; addConcept(4): 1; addConcept(1): 2; halvingMistakes(2): 1",
                "halvingMistakes(1): 1; halvingMistakes(0): 0");
        s.promise(40, mistake, "1 for 0", "reset(1): 3; addConcept(1): 0; halvingMistakes(0): 0; reset(2): 1",
                "addConcept(1): 0; addConcept(3): 1; addConcept(2): 2; halvingMistakes(2): 1; halvingMistakes(0): 0");
        s.promise(40, "After each point, the concepts that are not consistent with the label by the given concept are dropped",
                "those that are dropped no longer count",
                "addConcept(7): 0; addConcept(3): 1; addConcept(1): 2; addConcept(0): 3; halvingMistakes(0): 1",
                "halvingMistakes(1): 0; halvingMistakes(2): 1; halvingMistakes(3): 1");
        s.promise(40, "After each point, the concepts that are not consistent with the label by the given concept are dropped",
                "alone no concept makes a mistake", "addConcept(6): 0; addConcept(1): 1; halvingMistakes(0): 0",
                "halvingMistakes(1): 1");
        s.promise(40, "number: the number of the concept", "0 and the highest", FULL_CLASS,
                "halvingMistakes(0): 2; halvingMistakes(19): 2; halvingMistakes(18): 1");
        s.promise(40, "Returns the number of mistakes", "0 and more", "addConcept(0): 0; addConcept(1): 1; addConcept(2): 2",
                "addConcept(3): 3; halvingMistakes(0): 0; halvingMistakes(1): 1; halvingMistakes(3): 2");
        String none = "NO_SUCH_CONCEPT";
        s.promise(40, none, "too small", "addConcept(1): 0; halvingMistakes(-1): NO_SUCH_CONCEPT",
                "halvingMistakes(MIN_INT): NO_SUCH_CONCEPT");
        s.promise(40, none, "too large", "addConcept(1): 0; halvingMistakes(1): NO_SUCH_CONCEPT",
                "halvingMistakes(MAX_INT): NO_SUCH_CONCEPT");
        s.promise(40, none, "an empty class", "halvingMistakes(0): NO_SUCH_CONCEPT");
        s.promise(40, none, "a full class", FULL_CLASS, "halvingMistakes(20): NO_SUCH_CONCEPT");
    }
}
