/** The sentences of promises 13 to 24. */
final class TeachingBoundaries {
    private static final String FULL_CLASS = "reset(8): 3; addIntervals(): 20";
    /** The empty concept needs all points, each other one a single point. */
    private static final String SINGLES = "addConcept(0): 0; addConcept(1): 1; addConcept(2): 2; addConcept(4): 3";

    private TeachingBoundaries() { }

    static void test(Sentences s) {
        isTeachingSet(s);
        teachingSet(s);
        teachingSetCount(s);
        teachingDimension(s);
        averageDimension(s);
        recursivePlan(s);
        setScore(s);
        compareScores(s);
        preferenceSet(s);
    }

    /** For a method of one argument, the number of a concept. */
    private static void noSuchConcept(Sentences s, int promise, String method) {
        String sentence = "NO_SUCH_CONCEPT";
        s.promise(promise, sentence, "too small", SINGLES, method + "(-1): NO_SUCH_CONCEPT",
                method + "(MIN_INT): NO_SUCH_CONCEPT");
        s.promise(promise, sentence, "too large", SINGLES, method + "(4): NO_SUCH_CONCEPT",
                method + "(20): NO_SUCH_CONCEPT; " + method + "(MAX_INT): NO_SUCH_CONCEPT");
        s.promise(promise, sentence, "an empty class", method + "(0): NO_SUCH_CONCEPT");
        s.promise(promise, sentence, "a full class", FULL_CLASS, method + "(20): NO_SUCH_CONCEPT");
        s.promise(promise, sentence, "removed", SINGLES, "removeConcept(0): 3; " + method + "(3): NO_SUCH_CONCEPT");
    }

    private static void isTeachingSet(Sentences s) {
        String whether = "Returns whether a set of points is a teaching set of a concept for the whole class";
        s.promise(13, whether, "the empty set and the set of all points", SINGLES,
                "isTeachingSet(0, 0): 0; isTeachingSet(0, 7): 1; isTeachingSet(3, 0): 0; isTeachingSet(3, 7): 1");
        s.promise(13, whether, "a concept alone", "addConcept(0): 0; isTeachingSet(0, 0): 1");
        s.promise(13, whether, "the whole class, not the version space", "addConcept(0): 0; addConcept(1): 1",
                "addExample(0, 0): 1; versionCount(): 1; isTeachingSet(0, 0): 0; isTeachingSet(0, 1): 1");
        s.promise(13, whether, "the last concept of a full class",
                FULL_CLASS, "isTeachingSet(0, 124): 0; isTeachingSet(19, 66): 1; isTeachingSet(19, 68): 0");
        s.promise(13, "number: the number of the concept", "0 and the highest", FULL_CLASS,
                "isTeachingSet(0, 3): 1; isTeachingSet(19, 255): 1");
        s.promise(13, "set: the set of points", "0 and 2^m - 1", "reset(8): 3; addConcept(0): 0; isTeachingSet(0, 0): 1",
                "isTeachingSet(0, 255): 1; reset(1): 8; addConcept(0): 0; isTeachingSet(0, 1): 1");
        s.promise(13, "Returns 1 or 0", "both", "addConcept(0): 0; addConcept(1): 1; isTeachingSet(0, 1): 1",
                "isTeachingSet(0, 6): 0");
        String first = "NO_SUCH_CONCEPT (checked first)";
        s.promise(13, first, "too small", "addConcept(1): 0; isTeachingSet(-1, 0): NO_SUCH_CONCEPT",
                "isTeachingSet(MIN_INT, 0): NO_SUCH_CONCEPT");
        s.promise(13, first, "too large", "addConcept(1): 0; isTeachingSet(1, 0): NO_SUCH_CONCEPT",
                "isTeachingSet(MAX_INT, 0): NO_SUCH_CONCEPT");
        s.promise(13, first, "an empty class", "isTeachingSet(0, 0): NO_SUCH_CONCEPT");
        s.promise(13, first, "a wrong set too", "isTeachingSet(0, 8): NO_SUCH_CONCEPT; addConcept(1): 0",
                "isTeachingSet(1, -1): NO_SUCH_CONCEPT; isTeachingSet(-1, 8): NO_SUCH_CONCEPT");
        String range = "BAD_ARGUMENT if the set is negative or has a point that does not exist";
        s.promise(13, range, "negative", "addConcept(1): 0; isTeachingSet(0, -1): BAD_ARGUMENT",
                "isTeachingSet(0, MIN_INT): BAD_ARGUMENT");
        s.promise(13, range, "a point that does not exist", "addConcept(1): 0; isTeachingSet(0, 8): BAD_ARGUMENT",
                "isTeachingSet(0, 15): BAD_ARGUMENT; isTeachingSet(0, MAX_INT): BAD_ARGUMENT; reset(8): 3",
                "addConcept(1): 0; isTeachingSet(0, 256): BAD_ARGUMENT");
    }

    private static void teachingSet(Sentences s) {
        String minimum = "Returns the minimum teaching set of a concept for the whole class";
        s.promise(14, minimum, "the smallest of all", "addConcept(0): 0; teachingSet(0): 0");
        s.promise(14, minimum, "the largest of all", "reset(8): 3; addConcept(0): 0; addConcept(1): 1; addConcept(2): 2",
                "addConcept(4): 3; addConcept(8): 4; addConcept(16): 5; addConcept(32): 6; addConcept(64): 7",
                "addConcept(128): 8; teachingSet(0): 255; teachingSet(8): 128");
        s.promise(14, minimum, "the whole class, not the version space", "addConcept(0): 0; addConcept(1): 1",
                "addExample(0, 0): 1; versionCount(): 1; teachingSet(0): 1");
        s.promise(14, minimum, "one point", "reset(1): 3; addConcept(0): 0; addConcept(1): 1; teachingSet(0): 1");
        s.promise(14, "number: the number of the concept", "0 and the highest", FULL_CLASS,
                "teachingSet(0): 3; teachingSet(19): 66");
        s.promise(14, "Returns the set", "0 is a set", "addConcept(3): 0; teachingSet(0): 0; addConcept(1): 1; teachingSet(0): 2");
        noSuchConcept(s, 14, "teachingSet");
    }

    private static void teachingSetCount(Sentences s) {
        String count = "Returns the number of teaching sets of a concept, for the whole class, with a given size";
        s.promise(15, count, "none and all", SINGLES, "teachingSetCount(0, 2): 0; teachingSetCount(0, 3): 1");
        s.promise(15, count, "70 of 8 points", "reset(8): 3; addConcept(0): 0; teachingSetCount(0, 4): 70",
                "teachingSetCount(0, 8): 1; teachingSetCount(0, 0): 1");
        s.promise(15, count, "the whole class, not the version space", "addConcept(0): 0; addConcept(1): 1",
                "addExample(0, 0): 1; versionCount(): 1; teachingSetCount(0, 0): 0; teachingSetCount(0, 1): 1");
        s.promise(15, "number: the number of the concept", "0 and the highest", FULL_CLASS,
                "teachingSetCount(0, 2): 2; teachingSetCount(19, 4): 15; teachingSetCount(19, 8): 1");
        s.promise(15, "size: the size, 0 to m", "0 and m", "addConcept(0): 0; addConcept(7): 1; teachingSetCount(0, 0): 0",
                "teachingSetCount(0, 3): 1; reset(1): 3; addConcept(0): 0; teachingSetCount(0, 1): 1");
        s.promise(15, "Returns the number of sets", "0", "addConcept(0): 0; addConcept(1): 1; teachingSetCount(0, 0): 0",
                "teachingSetCount(0, 1): 1; teachingSetCount(0, 2): 2");
        String first = "NO_SUCH_CONCEPT (checked first)";
        s.promise(15, first, "too small", "addConcept(1): 0; teachingSetCount(-1, 0): NO_SUCH_CONCEPT",
                "teachingSetCount(MIN_INT, 0): NO_SUCH_CONCEPT");
        s.promise(15, first, "too large", "addConcept(1): 0; teachingSetCount(1, 0): NO_SUCH_CONCEPT",
                "teachingSetCount(MAX_INT, 0): NO_SUCH_CONCEPT");
        s.promise(15, first, "an empty class", "teachingSetCount(0, 0): NO_SUCH_CONCEPT");
        s.promise(15, first, "a wrong size too", "teachingSetCount(0, 4): NO_SUCH_CONCEPT; addConcept(1): 0",
                "teachingSetCount(1, -1): NO_SUCH_CONCEPT; teachingSetCount(-1, 4): NO_SUCH_CONCEPT");
        String range = "BAD_ARGUMENT if the size is out of range";
        s.promise(15, range, "too small", "addConcept(1): 0; teachingSetCount(0, -1): BAD_ARGUMENT",
                "teachingSetCount(0, MIN_INT): BAD_ARGUMENT");
        s.promise(15, range, "too large", "addConcept(1): 0; teachingSetCount(0, 4): BAD_ARGUMENT",
                "teachingSetCount(0, MAX_INT): BAD_ARGUMENT; reset(8): 3; addConcept(1): 0",
                "teachingSetCount(0, 9): BAD_ARGUMENT");
    }

    private static void teachingDimension(Sentences s) {
        s.promise(16, "Returns an extreme teaching dimension", "0, the least there is",
                "addConcept(5): 0; teachingDimension(0): 0; teachingDimension(1): 0");
        s.promise(16, "Returns an extreme teaching dimension", "8, the most there is",
                "reset(8): 3; addConcept(1): 0; addConcept(0): 1; addConcept(2): 2; addConcept(4): 3; addConcept(8): 4",
                "addConcept(16): 5; addConcept(32): 6; addConcept(64): 7; addConcept(128): 8; teachingDimension(0): 8",
                "teachingDimension(1): 1");
        s.promise(16, "Returns an extreme teaching dimension", "of the whole class, not of the version space",
                "addConcept(0): 0; addConcept(1): 1; addExample(0, 0): 1; addExample(0, 1): 2; teachingDimension(0): 1");
        s.promise(16, "what: 0 for the maximum, 1 for the minimum over all concepts of the class", "both", SINGLES,
                "teachingDimension(0): 3; teachingDimension(1): 1");
        s.promise(16, "what: 0 for the maximum, 1 for the minimum over all concepts of the class", "all are the same",
                "reset(2): 3; addConcept(0): 0; addConcept(1): 1; addConcept(2): 2; addConcept(3): 3",
                "teachingDimension(0): 2; teachingDimension(1): 2");
        s.promise(16, "Returns the dimension", "a full class", FULL_CLASS, "teachingDimension(0): 4; teachingDimension(1): 2");
        String range = "BAD_ARGUMENT if what is out of range (checked first)";
        s.promise(16, range, "too small", "addConcept(1): 0; teachingDimension(-1): BAD_ARGUMENT",
                "teachingDimension(MIN_INT): BAD_ARGUMENT");
        s.promise(16, range, "too large", "addConcept(1): 0; teachingDimension(2): BAD_ARGUMENT",
                "teachingDimension(MAX_INT): BAD_ARGUMENT");
        s.promise(16, range, "an empty class too", "teachingDimension(2): BAD_ARGUMENT; teachingDimension(-1): BAD_ARGUMENT");
        s.promise(16, "EMPTY if the class is empty", "a new one", "teachingDimension(0): EMPTY; teachingDimension(1): EMPTY");
        s.promise(16, "EMPTY if the class is empty", "emptied", "addConcept(1): 0; removeConcept(0): 0",
                "teachingDimension(0): EMPTY; teachingDimension(1): EMPTY");
    }

    private static void averageDimension(Sentences s) {
        String average = "Returns the average of the teaching dimensions of all concepts, as a fraction in lowest terms";
        s.promise(17, average, "0 is 0 by 1", "addConcept(5): 0; averageDimension(0): 0; averageDimension(1): 1");
        s.promise(17, average, "a whole number", "reset(2): 3; addConcept(0): 0; addConcept(1): 1; addConcept(2): 2",
                "addConcept(3): 3; averageDimension(0): 2; averageDimension(1): 1");
        s.promise(17, average, "a fraction that is not in lowest terms at first", SINGLES,
                "averageDimension(0): 3; averageDimension(1): 2");
        s.promise(17, average, "a fraction that is in lowest terms at first",
                "addConcept(0): 0; addConcept(1): 1; addConcept(2): 2; averageDimension(0): 4; averageDimension(1): 3");
        s.promise(17, average, "a full class", FULL_CLASS, "averageDimension(0): 3; averageDimension(1): 1");
        s.promise(17, "part: 0 for the numerator, 1 for the denominator", "both",
                "addConcept(0): 0; addConcept(1): 1; addConcept(2): 2; averageDimension(0): 4; averageDimension(1): 3");
        s.promise(17, "Returns the part", "as it is after a change",
                "addConcept(0): 0; addConcept(1): 1; addConcept(2): 2; averageDimension(0): 4; removeConcept(2): 2",
                "averageDimension(0): 1; averageDimension(1): 1");
        String range = "BAD_ARGUMENT if the part is out of range (checked first)";
        s.promise(17, range, "too small", "addConcept(1): 0; averageDimension(-1): BAD_ARGUMENT",
                "averageDimension(MIN_INT): BAD_ARGUMENT");
        s.promise(17, range, "too large", "addConcept(1): 0; averageDimension(2): BAD_ARGUMENT",
                "averageDimension(MAX_INT): BAD_ARGUMENT");
        s.promise(17, range, "an empty class too", "averageDimension(2): BAD_ARGUMENT; averageDimension(-1): BAD_ARGUMENT");
        s.promise(17, "EMPTY if the class is empty", "a new one", "averageDimension(0): EMPTY; averageDimension(1): EMPTY");
        s.promise(17, "EMPTY if the class is empty", "emptied", "addConcept(1): 0; reset(3): 3; averageDimension(0): EMPTY",
                "averageDimension(1): EMPTY");
    }

    private static void recursivePlan(Sentences s) {
        s.promise(18, "Returns the recursive teaching dimension", "less than the teaching dimension", SINGLES,
                "recursiveDimension(): 1; teachingDimension(0): 3");
        s.promise(18, "Returns the dimension", "one concept", "addConcept(6): 0; recursiveDimension(): 0");
        s.promise(18, "Returns the dimension", "a full class", FULL_CLASS, "recursiveDimension(): 2");
        s.promise(18, "Returns the dimension", "less than it was",
                "reset(2): 3; addConcept(0): 0; addConcept(1): 1; addConcept(2): 2; addConcept(3): 3; recursiveDimension(): 2",
                "removeConcept(3): 3; recursiveDimension(): 1; removeConcept(2): 2; removeConcept(1): 1",
                "recursiveDimension(): 0");
        s.promise(18, "EMPTY if the class is empty", "a new one", "recursiveDimension(): EMPTY");
        s.promise(18, "EMPTY if the class is empty", "emptied",
                "addConcept(1): 0; recursiveDimension(): 0; removeConcept(0): 0; recursiveDimension(): EMPTY");
        s.promise(19, "Returns the number of layers of the recursive plan", "one concept", "addConcept(6): 0; layerCount(): 1");
        s.promise(19, "Returns the number of layers of the recursive plan", "a full class", FULL_CLASS, "layerCount(): 7");
        s.promise(19, "Returns the number of layers, 0 for the empty class", "the empty class",
                "layerCount(): 0; addConcept(1): 0; layerCount(): 1; removeConcept(0): 0; layerCount(): 0");
        s.promise(20, "Returns the layer of a concept in the recursive plan", "of the plan of the class as it is", SINGLES,
                "layer(0): 1; removeConcept(3): 3; removeConcept(2): 2; layer(0): 0");
        s.promise(20, "number: the number of the concept", "0 and the highest", FULL_CLASS, "layer(0): 0; layer(19): 0; layer(11): 6");
        s.promise(20, "Returns the layer, from 0", "the first and the last layer", SINGLES,
                "layer(1): 0; layer(0): 1; layerCount(): 2");
        noSuchConcept(s, 20, "layer");
        s.promise(21, "Returns the plan set of a concept", "not its teaching set", SINGLES, "planSet(0): 0; planSet(3): 4",
                "teachingSet(0): 7");
        s.promise(21, "number: the number of the concept", "0 and the highest", FULL_CLASS, "planSet(0): 3; planSet(19): 66; planSet(11): 0");
        s.promise(21, "Returns the set", "a lone concept", "addConcept(7): 0; planSet(0): 0");
        noSuchConcept(s, 21, "planSet");
    }

    private static void setScore(Sentences s) {
        String two = "addConcept(0): 0; addConcept(1): 1";
        String quotient = "Sets the score of a concept to the quotient of two integers, which are converted to double and"
                + " divided in double arithmetic";
        s.promise(22, quotient, "a fraction is not dropped", two, "setScore(0, 1, 2): 0; setScore(1, 0, 1): 0",
                "compareScores(0, 1): 2");
        s.promise(22, quotient, "no wrap-around", two, "setScore(0, MIN_INT, -1): 0; setScore(1, MAX_INT, 1): 0",
                "compareScores(0, 1): 2; allocate(0, 3, 2): 2; storeScores(0): 2; element(0, 0): 2147483648");
        s.promise(22, quotient, "quotients that differ by less than doubles can tell", two, "setScore(0, 2147483646, MAX_INT): 0",
                "setScore(1, 2147483645, 2147483646): 0; compareScores(0, 1): 1; setScore(1, MAX_INT, MAX_INT): 0",
                "compareScores(0, 1): 0");
        s.promise(22, quotient, "the others keep theirs", two, "setScore(0, 1, 1): 0; setScore(1, 2, 1): 0",
                "setScore(0, 1, 1): 1; setScore(0, 3, 1): 0; setScore(1, 2, 1): 1");
        String zero = "The divisor may be 0, so that the score can be infinite or NaN";
        s.promise(22, zero, "infinite", two, "setScore(0, 1, 0): 0; setScore(0, MAX_INT, 0): 1; setScore(1, MAX_INT, 1): 0",
                "compareScores(0, 1): 2; setScore(1, 7, 0): 0; compareScores(0, 1): 1");
        s.promise(22, zero, "infinite and negative", two, "setScore(0, -1, 0): 0; setScore(0, MIN_INT, 0): 1",
                "setScore(1, MIN_INT, 1): 0; compareScores(0, 1): 0; setScore(1, 1, 0): 0; compareScores(0, 1): 0");
        s.promise(22, zero, "NaN", two, "setScore(0, 1, 1): 0; setScore(0, 0, 0): 0; compareScores(0, 0): 3");
        s.promise(22, "number: the number of the concept", "0 and the highest", FULL_CLASS,
                "setScore(0, 1, 1): 0; setScore(19, 2, 1): 0; compareScores(0, 19): 0; compareScores(1, 1): 3");
        s.promise(22, "numerator: the dividend", "0, and the bounds of int", two, "setScore(0, 0, 3): 0; setScore(1, 0, 4): 0",
                "compareScores(0, 1): 1; setScore(0, MIN_INT, 1): 0; setScore(1, MAX_INT, 1): 0; compareScores(0, 1): 0");
        s.promise(22, "denominator: the divisor", "the bounds of int", two, "setScore(0, 1, MIN_INT): 0",
                "setScore(1, 1, MAX_INT): 0; compareScores(0, 1): 0; setScore(0, -1, MIN_INT): 0; compareScores(0, 1): 0",
                "setScore(1, 0, 1): 0; compareScores(0, 1): 2");
        String equal = "Returns 1 if the new score is equal to the previous one by the operator == of Java, 0 if not";
        s.promise(22, equal, "a number after the first NaN", two, "setScore(0, 0, 1): 0; setScore(0, 0, 1): 1");
        s.promise(22, equal, "equal quotients", two, "setScore(0, 1, 3): 0; setScore(0, 2, 6): 1; setScore(0, -1, -3): 1");
        s.promise(22, equal, "another number", two, "setScore(0, 1, 3): 0; setScore(0, 333333333, 1000000000): 0",
                "setScore(0, -1, 3): 0");
        s.promise(22, equal, "NaN after NaN", two, "setScore(0, 0, 0): 0; setScore(0, 0, 0): 0");
        s.promise(22, equal, "NaN after a number and a number after NaN", two,
                "setScore(0, 1, 1): 0; setScore(0, 0, 0): 0; setScore(0, 1, 1): 0; setScore(0, 1, 1): 1");
        s.promise(22, equal, "infinite after infinite", two,
                "setScore(0, 1, 0): 0; setScore(0, 2, 0): 1; setScore(0, -2, 0): 0; setScore(0, -1, 0): 1");
        String none = "NO_SUCH_CONCEPT";
        s.promise(22, none, "too small", two, "setScore(0, 1, 1): 0; setScore(-1, 2, 1): NO_SUCH_CONCEPT",
                "setScore(MIN_INT, 0, 0): NO_SUCH_CONCEPT; setScore(0, 1, 1): 1");
        s.promise(22, none, "too large", two, "setScore(1, 1, 1): 0; setScore(2, 2, 1): NO_SUCH_CONCEPT",
                "setScore(20, 2, 1): NO_SUCH_CONCEPT; setScore(MAX_INT, 0, 0): NO_SUCH_CONCEPT; setScore(1, 1, 1): 1",
                "addConcept(2): 2; compareScores(2, 2): 3");
        s.promise(22, none, "an empty class", "setScore(0, 1, 1): NO_SUCH_CONCEPT; addConcept(0): 0; compareScores(0, 0): 3");
        s.promise(22, none, "a full class", FULL_CLASS, "setScore(20, 1, 1): NO_SUCH_CONCEPT");
    }

    private static void compareScores(Sentences s) {
        String two = "addConcept(0): 0; addConcept(1): 1";
        s.promise(23, "Compares the scores of two concepts", "one concept with itself", two,
                "compareScores(0, 0): 3; setScore(0, 1, 3): 0; compareScores(0, 0): 1");
        s.promise(23, "first: the number of a concept", "0 and the highest", FULL_CLASS,
                "setScore(0, 1, 1): 0; setScore(19, 2, 1): 0; compareScores(0, 19): 0; compareScores(19, 0): 2");
        s.promise(23, "second: the number of a concept", "0 and the highest", FULL_CLASS,
                "setScore(19, 2, 1): 0; setScore(0, 3, 1): 0; compareScores(19, 19): 1; compareScores(0, 0): 1",
                "compareScores(1, 19): 3; compareScores(1, 0): 3");
        String returns = "Returns 0 if the first score is less, 1 if they are equal, 2 if it is greater, 3 if at least one of"
                + " them is NaN";
        s.promise(23, returns, "less and greater", two, "setScore(0, 1, 3): 0; setScore(1, 1, 2): 0; compareScores(0, 1): 0",
                "compareScores(1, 0): 2");
        s.promise(23, returns, "equal", two, "setScore(0, 1, 3): 0; setScore(1, 2, 6): 0; compareScores(0, 1): 1",
                "compareScores(1, 0): 1");
        s.promise(23, returns, "0.0 and -0.0", two, "setScore(0, 0, 1): 0; setScore(1, 0, -1): 0; compareScores(0, 1): 1",
                "compareScores(1, 0): 1");
        s.promise(23, returns, "infinite", two, "setScore(0, -1, 0): 0; setScore(1, 1, 0): 0; compareScores(0, 1): 0",
                "compareScores(1, 0): 2; compareScores(0, 0): 1; compareScores(1, 1): 1");
        s.promise(23, returns, "the first is NaN", two, "setScore(1, 1, 1): 0; compareScores(0, 1): 3");
        s.promise(23, returns, "the second is NaN", two, "setScore(0, 1, 1): 0; compareScores(0, 1): 3");
        s.promise(23, returns, "both are NaN", two, "compareScores(0, 1): 3; compareScores(1, 1): 3");
        s.promise(23, "NO_SUCH_CONCEPT", "the first", two, "compareScores(-1, 0): NO_SUCH_CONCEPT",
                "compareScores(2, 0): NO_SUCH_CONCEPT; compareScores(MIN_INT, 0): NO_SUCH_CONCEPT",
                "compareScores(MAX_INT, 0): NO_SUCH_CONCEPT");
        s.promise(23, "NO_SUCH_CONCEPT", "the second", two, "compareScores(0, -1): NO_SUCH_CONCEPT",
                "compareScores(0, 2): NO_SUCH_CONCEPT; compareScores(0, MIN_INT): NO_SUCH_CONCEPT",
                "compareScores(0, MAX_INT): NO_SUCH_CONCEPT");
        s.promise(23, "NO_SUCH_CONCEPT", "both", two, "compareScores(-1, 2): NO_SUCH_CONCEPT",
                "compareScores(20, 20): NO_SUCH_CONCEPT");
        s.promise(23, "NO_SUCH_CONCEPT", "an empty class", "compareScores(0, 0): NO_SUCH_CONCEPT");
        s.promise(23, "NO_SUCH_CONCEPT", "a full class", FULL_CLASS, "compareScores(20, 0): NO_SUCH_CONCEPT",
                "compareScores(0, 20): NO_SUCH_CONCEPT");
    }

    private static void preferenceSet(Sentences s) {
        String minimum = "Returns the minimum preference teaching set of a concept: the one of the smallest size, and among"
                + " several the lowest integer";
        s.promise(24, minimum, "a smaller set that is a higher integer",
                "addConcept(0): 0; addConcept(5): 1; addConcept(6): 2; addConcept(1): 3; preferenceSet(0): 3",
                "setScore(0, 1, 1): 0; setScore(3, 0, 1): 0; preferenceSet(0): 4");
        s.promise(24, minimum, "several of the same size", "addConcept(0): 0; addConcept(6): 1; preferenceSet(0): 2");
        s.promise(24, minimum, "all others are less", SINGLES, "setScore(0, 1, 0): 0; setScore(1, 1, 1): 0",
                "setScore(2, 1, 1): 0; setScore(3, 1, 1): 0; preferenceSet(0): 0; preferenceSet(1): 1");
        s.promise(24, minimum, "less for some of the others only", SINGLES,
                "setScore(0, 1, 1): 0; setScore(1, 1, 2): 0; setScore(2, 1, 1): 0; setScore(3, 2, 1): 0",
                "preferenceSet(0): 6; preferenceSet(3): 0; preferenceSet(1): 1");
        String all = "(The set of all points is always a preference teaching set.)";
        s.promise(24, all, "nothing less will do", SINGLES, "preferenceSet(0): 7");
        s.promise(24, all, "eight points", "reset(8): 3; addConcept(0): 0; addConcept(1): 1; addConcept(2): 2",
                "addConcept(4): 3; addConcept(8): 4; addConcept(16): 5; addConcept(32): 6; addConcept(64): 7",
                "addConcept(128): 8; preferenceSet(0): 255");
        s.promise(24, "number: the number of the concept", "0 and the highest", FULL_CLASS,
                "preferenceSet(0): 3; preferenceSet(19): 66; setScore(19, 1, 1): 0; setScore(15, 0, 1): 0",
                "preferenceSet(19): 66; setScore(18, 0, 1): 0; preferenceSet(19): 34");
        s.promise(24, "Returns the set", "a concept alone", "addConcept(7): 0; preferenceSet(0): 0; setScore(0, 1, 1): 0",
                "preferenceSet(0): 0");
        noSuchConcept(s, 24, "preferenceSet");
    }
}
