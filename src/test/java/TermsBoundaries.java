/** The sentences under "Terms", each in a promise that leans on it. */
final class TermsBoundaries {
    private TermsBoundaries() { }

    static void test(Sentences s) {
        classes(s);
        teaching(s);
        plans(s);
        preferences(s);
        shattering(s);
        samples(s);
        arrays(s);
        newCalculator(s);
        details(s);
    }

    private static void classes(Sentences s) {
        String domain = "The domain has m points, 1 to 8, numbered from 0";
        s.terms(30, domain, "the only point of one", "reset(1): 3; addExample(0, 1): 1; addExample(1, 1): NO_SUCH_POINT");
        s.terms(30, domain, "the last point of eight", "reset(8): 3; addExample(7, 1): 1; addExample(8, 1): NO_SUCH_POINT");
        s.terms(2, domain, "no point and nine points", "reset(0): BAD_ARGUMENT; reset(9): BAD_ARGUMENT; pointCount(): 3");
        s.terms(4, "A concept is a set of points, written as an integer whose bit k is 1 if point k is in the set",
                "the lowest and the highest bit",
                "reset(8): 3; addConcept(128): 0; addConcept(1): 1; majority(7): 2; addExample(7, 1): 1; version(0): 0",
                "versionCount(): 1; clearSample(): 1; addExample(0, 1): 1; version(0): 1; versionCount(): 1");
        String list = "The class is a list of up to 20 different concepts, numbered from 0 in the order in which they were"
                + " added";
        s.terms(4, list, "the 20th and the 21st concept", "reset(8): 3; addConcept(0): 0; addIntervals(): 19",
                "removeConcept(1): 19; addConcept(5): 19; addConcept(9): FULL; conceptCount(): 20; concept(0): 0",
                "concept(1): 3; concept(18): 60; concept(19): 5");
        s.terms(4, list, "different concepts", "addConcept(6): 0; addConcept(6): DUPLICATE; conceptCount(): 1");
        s.terms(15, "A set of points is also written as an integer in this way; its size is the number of its points",
                "from no point to all of them", "addConcept(5): 0; teachingSetCount(0, 0): 1; teachingSetCount(0, 1): 3",
                "teachingSetCount(0, 2): 3; teachingSetCount(0, 3): 1; addConcept(1): 1; teachingSet(0): 4",
                "teachingDimension(0): 1");
        String agree = "Two concepts agree on a set of points if each point of the set is in both or in neither";
        s.terms(13, agree, "in both", "addConcept(3): 0; addConcept(7): 1; isTeachingSet(0, 3): 0");
        s.terms(13, agree, "in neither", "addConcept(0): 0; addConcept(4): 1; isTeachingSet(0, 3): 0");
        s.terms(13, agree, "in only one of them", "addConcept(3): 0; addConcept(7): 1; isTeachingSet(0, 4): 1",
                "isTeachingSet(1, 4): 1; isTeachingSet(0, 7): 1");
        s.terms(13, agree, "the empty set", "addConcept(0): 0; addConcept(7): 1; isTeachingSet(0, 0): 0");
        String example = "A labelled example is a point with a label, 1 or 0; a concept is consistent with it if the"
                + " label is 1 for a point of the concept and 0 for another point";
        s.terms(34, example, "label 1", "addConcept(2): 0; addExample(1, 1): 1; versionCount(): 1; clearSample(): 1",
                "addExample(0, 1): 1; versionCount(): 0");
        s.terms(34, example, "label 0", "addConcept(2): 0; addExample(0, 0): 1; versionCount(): 1; clearSample(): 1",
                "addExample(1, 0): 1; versionCount(): 0");
        s.terms(30, example, "labels beside 0 and 1", "addExample(0, -1): BAD_ARGUMENT; addExample(0, 2): BAD_ARGUMENT");
    }

    private static void teaching(Sentences s) {
        String teaches = "A set of points is a teaching set of a concept for some concepts of the class if none of these"
                + " concepts except the concept itself agrees with the concept on the set";
        s.terms(13, teaches, "the concept itself does not count", "addConcept(5): 0; isTeachingSet(0, 7): 1");
        s.terms(13, teaches, "a single other one is enough",
                "addConcept(0): 0; addConcept(1): 1; addConcept(2): 2; isTeachingSet(0, 1): 0; isTeachingSet(0, 2): 0",
                "isTeachingSet(0, 3): 1");
        String minimum = "The minimum teaching set is the teaching set of the smallest size; among several, it is the one"
                + " that is the lowest integer";
        s.terms(14, minimum, "a smaller set that is a higher integer",
                "addConcept(0): 0; addConcept(5): 1; addConcept(6): 2; isTeachingSet(0, 3): 1; teachingSet(0): 4");
        s.terms(14, minimum, "several of the same size", "addConcept(0): 0; addConcept(6): 1; teachingSet(0): 2",
                "teachingSetCount(0, 1): 2");
        s.terms(14, minimum, "the set of all points", "addConcept(0): 0; addConcept(1): 1; addConcept(2): 2",
                "addConcept(4): 3; teachingSet(0): 7; teachingSetCount(0, 2): 0; teachingSetCount(0, 3): 1");
        s.terms(16, "The teaching dimension of a concept is the size of its minimum teaching set for the whole class",
                "the size, not the integer", "reset(8): 3; addConcept(0): 0; addConcept(128): 1; teachingSet(0): 128",
                "teachingDimension(0): 1; teachingDimension(1): 1");
        s.terms(14, "If the class consists of the concept alone, the minimum teaching set is the empty set",
                "a lone concept", "addConcept(7): 0; teachingSet(0): 0; teachingDimension(0): 0; preferenceSet(0): 0",
                "planSet(0): 0");
        s.terms(14, "If the class consists of the concept alone, the minimum teaching set is the empty set",
                "no longer alone, then alone again", "addConcept(7): 0; addConcept(6): 1; teachingSet(0): 1",
                "removeConcept(1): 1; teachingSet(0): 0");
    }

    private static void plans(Sentences s) {
        s.terms(20, "The recursive teaching plan puts each concept into a layer", "all 20 concepts of a full class",
                "reset(8): 3; addIntervals(): 20; layerCount(): 7; layer(0): 0; layer(1): 1; layer(2): 2; layer(3): 4; layer(4): 5",
                "layer(5): 4; layer(6): 2; layer(7): 0; layer(8): 0; layer(9): 3; layer(10): 5; layer(11): 6; layer(12): 4",
                "layer(13): 2; layer(14): 0; layer(15): 2; layer(16): 4; layer(17): 4; layer(18): 2; layer(19): 0");
        String first = "Layer 0 consists of the concepts that have the smallest minimum teaching sets for the whole class,"
                + " that is, of those whose size is the minimum over all concepts";
        s.terms(20, first, "all concepts are of the same size", "reset(2): 3; addConcept(0): 0; addConcept(1): 1",
                "addConcept(2): 2; addConcept(3): 3; layer(0): 0; layer(1): 0; layer(2): 0; layer(3): 0",
                "layerCount(): 1");
        s.terms(20, first, "a size above the minimum", "addConcept(0): 0; addConcept(1): 1; addConcept(2): 2",
                "layer(0): 1; layer(1): 0; layer(2): 0");
        s.terms(21, "They are taken away", "what was needed against them is needed no more",
                "addConcept(0): 0; addConcept(1): 1; addConcept(2): 2; addConcept(4): 3; teachingSet(0): 7",
                "planSet(0): 0");
        String next = "Layer 1 is formed in the same way from the concepts that are left, with teaching sets for these"
                + " concepts only, and so on, until none is left";
        s.terms(19, next, "a chain with one concept in the last layer", "reset(4): 3; addConcept(0): 0; addConcept(1): 1",
                "addConcept(3): 2; addConcept(7): 3; addConcept(15): 4; layer(0): 0; layer(1): 1; layer(2): 2",
                "layer(3): 1; layer(4): 0; layerCount(): 3");
        s.terms(19, next, "as many layers as eight points give to a chain", "reset(8): 3; addConcept(0): 0",
                "addConcept(1): 1; addConcept(3): 2; addConcept(7): 3; addConcept(15): 4; addConcept(31): 5",
                "addConcept(63): 6; addConcept(127): 7; addConcept(255): 8; layerCount(): 5; layer(4): 4; planSet(4): 0");
        String set = "The plan set of a concept is its minimum teaching set for the concepts that were left when its layer"
                + " was formed";
        s.terms(21, set, "the others of its own layer are left still",
                "addConcept(1): 0; addConcept(0): 1; addConcept(7): 2; addConcept(3): 3; planSet(0): 2; planSet(3): 2",
                "planSet(1): 1; planSet(2): 4; teachingSet(0): 3");
        s.terms(18, "The recursive teaching dimension is the maximum size of all plan sets",
                "the maximum is not in the first layer",
                "reset(4): 3; addConcept(0): 0; addConcept(1): 1; addConcept(2): 2; addConcept(3): 3; addConcept(4): 4",
                "addConcept(5): 5; addConcept(6): 6; addConcept(7): 7; addConcept(8): 8; planSet(8): 8; planSet(7): 7",
                "recursiveDimension(): 3");
        s.terms(18, "The recursive teaching dimension is the maximum size of all plan sets",
                "the maximum is not in the last layer",
                "addConcept(0): 0; addConcept(1): 1; addConcept(2): 2; planSet(0): 0; recursiveDimension(): 1");
    }

    private static void preferences(Sentences s) {
        String score = "Each concept has a score of type double, which is initially NaN (not a number)";
        s.terms(4, score, "added alone", "addConcept(0): 0; compareScores(0, 0): 3");
        s.terms(5, score, "added as an interval", "addIntervals(): 6; compareScores(0, 0): 3; compareScores(5, 5): 3");
        s.terms(46, score, "loaded", "allocate(0, 1, 1): 1; loadClass(0): 1; compareScores(0, 0): 3");
        s.terms(22, score, "a double, not a float", "addConcept(0): 0; addConcept(1): 1; setScore(0, 16777217, 1): 0",
                "setScore(1, 16777216, 1): 0; compareScores(0, 1): 2");
        String prefers = "A set of points is a preference teaching set of a concept if every other concept of the class"
                + " that agrees with the concept on the set has a score that is less than that of the concept, by the"
                + " operator < of Java";
        s.terms(24, prefers, "less", "addConcept(0): 0; addConcept(1): 1; setScore(0, 2, 1): 0; setScore(1, 1, 1): 0",
                "preferenceSet(0): 0; preferenceSet(1): 1");
        s.terms(24, prefers, "equal", "addConcept(0): 0; addConcept(1): 1; setScore(0, 1, 1): 0; setScore(1, 1, 1): 0",
                "preferenceSet(0): 1; preferenceSet(1): 1");
        s.terms(24, prefers, "0.0 and -0.0",
                "addConcept(0): 0; addConcept(1): 1; setScore(0, 0, 1): 0; setScore(1, 0, -1): 0; preferenceSet(0): 1",
                "preferenceSet(1): 1");
        s.terms(24, prefers, "infinite scores",
                "addConcept(0): 0; addConcept(1): 1; setScore(0, 1, 0): 0; setScore(1, MAX_INT, 1): 0",
                "preferenceSet(0): 0; setScore(1, 1, 0): 0; preferenceSet(0): 1; setScore(0, -1, 0): 0",
                "preferenceSet(0): 1; preferenceSet(1): 0");
        s.terms(24, "(A comparison with NaN is false.)", "the concept's own score",
                "addConcept(0): 0; addConcept(1): 1; setScore(1, -1, 0): 0; preferenceSet(0): 1");
        s.terms(24, "(A comparison with NaN is false.)", "the other concept's score",
                "addConcept(0): 0; addConcept(1): 1; setScore(0, 1, 0): 0; preferenceSet(0): 1");
        s.terms(24, "(A comparison with NaN is false.)", "both scores",
                "addConcept(0): 0; addConcept(1): 1; preferenceSet(0): 1; preferenceSet(1): 1");
    }

    private static void shattering(Sentences s) {
        String traces = "The traces of the class on a set of points are the different intersections of the set with the"
                + " concepts";
        s.terms(25, traces, "equal intersections count once", "addConcept(1): 0; addConcept(3): 1; addConcept(5): 2",
                "traceCount(1): 1; traceCount(2): 2; traceCount(7): 3");
        s.terms(25, traces, "the empty set has one trace", "addConcept(1): 0; addConcept(3): 1; traceCount(0): 1");
        String shattered = "A set of points is shattered if all of its subsets, including the empty set, are traces";
        s.terms(28, shattered, "only the empty trace is missing",
                "reset(2): 3; addConcept(1): 0; addConcept(2): 1; addConcept(3): 2; shatteredCount(2): 0",
                "addConcept(0): 3; shatteredCount(2): 1");
        s.terms(28, shattered, "only the whole set is missing",
                "reset(2): 3; addConcept(0): 0; addConcept(1): 1; addConcept(2): 2; shatteredCount(2): 0",
                "addConcept(3): 3; shatteredCount(2): 1");
        s.terms(28, shattered, "the empty set is shattered by any concept", "addConcept(7): 0; shatteredCount(0): 1");
        String dimension = "The Vapnik-Chervonenkis dimension is the maximum size of a shattered set; it is -1 for the"
                + " empty class";
        s.terms(26, dimension, "the empty class", "dimension(): -1; addConcept(7): 0; dimension(): 0",
                "removeConcept(0): 0; dimension(): -1");
        s.terms(26, dimension, "four points, the most that 20 concepts shatter", "reset(4): 3; addConcept(0): 0",
                "addConcept(1): 1; addConcept(2): 2; addConcept(3): 3; addConcept(4): 4; addConcept(5): 5",
                "addConcept(6): 6; addConcept(7): 7; addConcept(8): 8; addConcept(9): 9; addConcept(10): 10",
                "addConcept(11): 11; addConcept(12): 12; addConcept(13): 13; addConcept(14): 14; dimension(): 3",
                "addConcept(15): 15; dimension(): 4");
    }

    private static void samples(Sentences s) {
        String list = "The sample is a list of up to 12 labelled examples, initially empty";
        s.terms(30, list, "initially empty", "clearSample(): 0; example(0): NONE");
        s.terms(30, list, "the 12th and the 13th example", "reset(8): 3; addConcept(15): 0; addExamples(0, 255): 8",
                "addExamples(0, 7): 11; addExample(0, 1): 12; addExample(0, 1): FULL; example(11): 1; example(12): NONE");
        String space = "The version space is the set of the concepts of the class that are consistent with all examples of"
                + " the sample";
        s.terms(34, space, "no example", "versionCount(): 0; addConcept(0): 0; addConcept(7): 1; versionCount(): 2");
        s.terms(34, space, "all examples, not some", "addConcept(0): 0; addConcept(1): 1; addConcept(3): 2",
                "addExample(0, 1): 1; versionCount(): 2; addExample(1, 0): 2; versionCount(): 1; version(0): 1",
                "addExample(0, 0): 3; versionCount(): 0");
        s.terms(39, "A membership query asks for the label of a point", "the last point",
                "reset(8): 3; addConcept(0): 0; addConcept(128): 1; bestQuery(): 7; queryDepth(): 1");
        String depth = "The query depth of a set of concepts is the minimum number of queries with which, in the worst"
                + " case over the concepts of the set, the concept can be determined: it is 0 for at most one concept;"
                + " otherwise it is 1 plus the minimum, over all points that are in some but not in all of the concepts,"
                + " of the larger query depth of the concepts with the point and of those without it";
        s.terms(38, depth, "one concept", "addConcept(5): 0; queryDepth(): 0");
        s.terms(38, depth, "two concepts", "addConcept(5): 0; addConcept(2): 1; queryDepth(): 1");
        s.terms(38, depth, "a point that is in all or in none does not help",
                "addConcept(1): 0; addConcept(3): 1; bestQuery(): 1; queryDepth(): 1");
        s.terms(38, depth, "eight queries, the most there are", "reset(8): 3; addConcept(0): 0; addConcept(1): 1",
                "addConcept(2): 2; addConcept(4): 3; addConcept(8): 4; addConcept(16): 5; addConcept(32): 6",
                "addConcept(64): 7; addConcept(128): 8; queryDepth(): 8");
        s.terms(38, depth, "the larger of both sides",
                "addConcept(0): 0; addConcept(2): 1; addConcept(4): 2; addConcept(1): 3; queryDepth(): 3");
    }

    private static void arrays(Sentences s) {
        s.terms(41, "There are four array slots, numbered 0 to 3", "the first and the last one, and those beside them",
                "allocate(0, 0, 1): 1; allocate(3, 0, 1): 1; allocate(-1, 0, 1): BAD_ARGUMENT",
                "allocate(4, 0, 1): BAD_ARGUMENT");
        s.terms(41, "There are four array slots, numbered 0 to 3", "each has an array of its own",
                "allocate(0, 2, 1): 1; allocate(1, 2, 1): 1; allocate(2, 2, 1): 1; allocate(3, 2, 1): 1",
                "putElement(0, 0, 10): 1; putElement(1, 0, 11): 1; putElement(2, 0, 12): 1; putElement(3, 0, 13): 1",
                "element(0, 0): 10; element(1, 0): 11; element(2, 0): 12; element(3, 0): 13");
        String holds = "A slot is empty, or holds an array of bytes, shorts, longs or doubles with at most 40 elements";
        s.terms(41, holds, "40 and 41 elements", "allocate(0, 0, 40): 40; allocate(1, 1, 40): 40; allocate(2, 2, 40): 40",
                "allocate(3, 3, 40): 40; allocate(0, 0, 41): BAD_ARGUMENT; allocate(1, 1, 41): BAD_ARGUMENT",
                "allocate(2, 2, 41): BAD_ARGUMENT; allocate(3, 3, 41): BAD_ARGUMENT; putElement(3, 39, 1): 1");
        s.terms(42, holds, "an array without elements is no empty slot", "allocate(0, 0, 0): 0",
                "putElement(0, 0, 0): INDEX_OUT_OF_RANGE; release(0): 1; putElement(0, 0, 0): EMPTY_SLOT");
        s.terms(42, "All slots are initially empty", "each of the four",
                "release(0): 0; release(1): 0; release(2): 0; release(3): 0");
    }

    private static void newCalculator(Sentences s) {
        s.terms(1, "A new calculator has 3 points, an empty class and an empty sample", "3 points",
                "pointCount(): 3; addConcept(8): BAD_ARGUMENT; addConcept(7): 0");
        s.terms(1, "A new calculator has 3 points, an empty class and an empty sample", "an empty class",
                "conceptCount(): 0; concept(0): NO_SUCH_CONCEPT; numberOf(0): NONE; layerCount(): 0");
        s.terms(1, "A new calculator has 3 points, an empty class and an empty sample", "an empty sample",
                "example(0): NONE; clearSample(): 0");
        s.terms(49, "There is no snapshot", "a restore before the first snapshot", "restore(): NONE; addConcept(1): 0",
                "restore(): NONE; concept(0): 1");
    }

    private static void details(Sentences s) {
        s.terms(46, "The elements of an array are read in the order of their indexes", "descending values",
                "allocate(0, 1, 3): 3; putElement(0, 2, 1): 1; putElement(0, 0, 6): 1; putElement(0, 1, 4): 1",
                "loadClass(0): 3; concept(0): 6; concept(1): 4; concept(2): 1");
        String without = "Without concepts, there are no traces, no set is shattered, the growth is 0, and the class is"
                + " closed";
        s.terms(25, without, "no traces", "traceCount(0): 0; traceCount(7): 0");
        s.terms(27, without, "no set is shattered, not even the empty one", "shatteredSet(0): NONE; shatteredSet(3): NONE");
        s.terms(28, without, "no set is shattered, not even the empty one", "shatteredCount(0): 0; shatteredCount(3): 0");
        s.terms(29, without, "the growth is 0", "growth(0): 0; growth(3): 0");
        s.terms(12, without, "the class is closed", "isIntersectionClosed(): 1");
        String stays = "The sample stays when concepts are added, removed or complemented, and becomes empty by every"
                + " restriction";
        s.terms(4, stays, "added", "addExample(2, 0): 1; addConcept(4): 0; example(0): 4; versionCount(): 0");
        s.terms(5, stays, "intervals added", "addExample(2, 0): 1; addIntervals(): 6; example(0): 4; versionCount(): 3");
        s.terms(6, stays, "removed", "addConcept(4): 0; addExample(2, 0): 1; removeConcept(0): 0; example(0): 4");
        s.terms(10, stays, "complemented", "addConcept(4): 0; addExample(2, 0): 1; complementAll(): 1; example(0): 4",
                "versionCount(): 1");
        s.terms(11, stays, "a restriction to all points", "addConcept(4): 0; addExample(2, 0): 1; restrict(7): 1",
                "example(0): NONE; clearSample(): 0");
        s.terms(11, stays, "a restriction that keeps the point", "addExample(0, 0): 1; restrict(1): 0; example(0): NONE");
        s.terms(11, stays, "a refused restriction is none", "addExample(0, 0): 1; restrict(0): BAD_ARGUMENT; example(0): 0",
                "restrict(8): BAD_ARGUMENT; restrict(-1): BAD_ARGUMENT; example(0): 0");
        s.terms(9, "A set that is no concept of the class has no number, whatever int it is", "ints that are no sets",
                "addConcept(7): 0; numberOf(8): NONE; numberOf(-1): NONE; numberOf(MIN_INT): NONE",
                "numberOf(MAX_INT): NONE; numberOf(-6): NONE; numberOf(7): 0");
        s.terms(31, "Examples for the empty set are none", "an empty and a full sample",
                "reset(8): 3; addConcept(1): 0; addExamples(0, 0): 0; addExamples(0, 255): 8; addExamples(0, 15): 12",
                "addExamples(0, 0): 12; example(12): NONE");
        String nearest = "In a double array, a long becomes the nearest double";
        s.terms(43, nearest, "beyond 2^53", "allocate(0, 3, 1): 1; putElement(0, 0, 9007199254740992): 1",
                "element(0, 0): 9007199254740992; putElement(0, 0, 9007199254740993): 1",
                "element(0, 0): 9007199254740992; putElement(0, 0, 9007199254740995): 1",
                "element(0, 0): 9007199254740996; putElement(0, 0, -9007199254740993): 1",
                "element(0, 0): -9007199254740992");
        s.terms(43, nearest, "the bounds of long", "allocate(0, 3, 2): 2; putElement(0, 0, MAX_LONG): 1",
                "element(0, 0): MAX_LONG; putElement(0, 1, MIN_LONG): 1; element(0, 1): MIN_LONG",
                "putElement(0, 0, 9223372036854775295): 1; element(0, 0): 9223372036854774784");
        s.terms(22, "The scores NaN and NaN are not equal, 0.0 and -0.0 are", "NaN after NaN",
                "addConcept(0): 0; setScore(0, 0, 0): 0; setScore(0, 0, 0): 0");
        s.terms(22, "The scores NaN and NaN are not equal, 0.0 and -0.0 are", "-0.0 after 0.0 and the other way",
                "addConcept(0): 0; setScore(0, 0, 1): 0; setScore(0, 0, -1): 1; setScore(0, 0, 1): 1");
        s.terms(23, "The scores NaN and NaN are not equal, 0.0 and -0.0 are", "compared",
                "addConcept(0): 0; addConcept(1): 1; compareScores(0, 1): 3; setScore(0, 0, 1): 0",
                "setScore(1, 0, -1): 0; compareScores(0, 1): 1; compareScores(1, 0): 1");
        s.terms(49, "The array slots stay at a restore", "an array of each type, changed after the snapshot",
                "allocate(0, 0, 1): 1; allocate(1, 1, 1): 1; snapshot(): 0; allocate(2, 2, 1): 1; allocate(3, 3, 1): 1",
                "putElement(0, 0, 5): 1; putElement(2, 0, 6): 1; putElement(3, 0, 7): 1; release(1): 1; restore(): 0",
                "element(0, 0): 5; element(1, 0): NO_VALUE; element(2, 0): 6; element(3, 0): 7");
    }
}
