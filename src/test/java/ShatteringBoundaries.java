/** The sentences of promises 25 to 29. */
final class ShatteringBoundaries {
    private static final String FULL_CLASS = "reset(8): 3; addIntervals(): 20";
    /** All sets of the points 1 and 2. */
    private static final String PAIR = "addConcept(0): 0; addConcept(2): 1; addConcept(4): 2; addConcept(6): 3";

    private ShatteringBoundaries() { }

    static void test(Sentences s) {
        traceCount(s);
        dimension(s);
        shatteredSet(s);
        shatteredCount(s);
        growth(s);
    }

    private static void sizeOutOfRange(Sentences s, int promise, String sentence, String method) {
        for (String begin : new String[] {"conceptCount(): 0", PAIR}) {
            s.promise(promise, sentence, "too small after " + begin, begin, method + "(-1): BAD_ARGUMENT",
                    method + "(MIN_INT): BAD_ARGUMENT");
            s.promise(promise, sentence, "too large after " + begin, begin, method + "(4): BAD_ARGUMENT",
                    method + "(MAX_INT): BAD_ARGUMENT; " + method + "(32): BAD_ARGUMENT");
        }
        s.promise(promise, sentence, "too large for one point and for eight",
                "reset(1): 3; " + method + "(2): BAD_ARGUMENT; reset(8): 1; " + method + "(9): BAD_ARGUMENT");
    }

    private static void traceCount(Sentences s) {
        String number = "Returns the number of traces of the class on a set of points";
        s.promise(25, number, "an empty class", "traceCount(0): 0; traceCount(7): 0");
        s.promise(25, number, "one concept", "addConcept(5): 0; traceCount(0): 1; traceCount(7): 1");
        s.promise(25, number, "a full class", FULL_CLASS, "traceCount(255): 20; traceCount(0): 1; traceCount(128): 2",
                "traceCount(3): 4");
        s.promise(25, "set: the set of points", "0 and 2^m - 1", PAIR, "traceCount(0): 1; traceCount(7): 4; reset(1): 3",
                "addConcept(0): 0; addConcept(1): 1; traceCount(0): 1; traceCount(1): 2");
        s.promise(25, "Returns the number", "equal traces count once", PAIR, "traceCount(1): 1; traceCount(3): 2",
                "traceCount(6): 4");
        String range = "BAD_ARGUMENT if the set is negative or has a point that does not exist";
        s.promise(25, range, "negative", "traceCount(-1): BAD_ARGUMENT; addConcept(1): 0; traceCount(-1): BAD_ARGUMENT",
                "traceCount(MIN_INT): BAD_ARGUMENT");
        s.promise(25, range, "a point that does not exist", "traceCount(8): BAD_ARGUMENT; addConcept(1): 0",
                "traceCount(8): BAD_ARGUMENT; traceCount(9): BAD_ARGUMENT; traceCount(MAX_INT): BAD_ARGUMENT; reset(8): 3",
                "traceCount(256): BAD_ARGUMENT; traceCount(255): 0");
    }

    private static void dimension(Sentences s) {
        s.promise(26, "Returns the Vapnik-Chervonenkis dimension", "two traces of three or four",
                "addConcept(0): 0; addConcept(2): 1; addConcept(4): 2; dimension(): 1; addConcept(6): 3; dimension(): 2");
        s.promise(26, "Returns the Vapnik-Chervonenkis dimension", "the last points of eight",
                "reset(8): 3; addConcept(0): 0; addConcept(64): 1; addConcept(128): 2; addConcept(192): 3; dimension(): 2");
        s.promise(26, "Returns the Vapnik-Chervonenkis dimension", "a full class", FULL_CLASS, "dimension(): 2");
        String empty = "Returns the dimension, -1 for the empty class";
        s.promise(26, empty, "the empty class", "dimension(): -1; addConcept(0): 0; reset(3): 3; dimension(): -1");
        s.promise(26, empty, "one concept", "addConcept(0): 0; dimension(): 0");
    }

    private static void shatteredSet(Sentences s) {
        String lowest = "Returns the lowest shattered set of a given size";
        s.promise(27, lowest, "not the lowest set of all", PAIR, "shatteredSet(1): 2; shatteredSet(2): 6");
        s.promise(27, lowest, "several", "addIntervals(): 6; addConcept(0): 6; shatteredSet(2): 3; shatteredCount(2): 3");
        s.promise(27, lowest, "the last points of eight",
                "reset(8): 3; addConcept(0): 0; addConcept(64): 1; addConcept(128): 2; addConcept(192): 3",
                "shatteredSet(1): 64; shatteredSet(2): 192");
        s.promise(27, "size: the size, 0 to m", "0 and m", PAIR, "shatteredSet(0): 0; shatteredSet(3): NONE; reset(2): 3",
                "addConcept(0): 0; addConcept(1): 1; addConcept(2): 2; addConcept(3): 3; shatteredSet(2): 3",
                "shatteredSet(0): 0");
        s.promise(27, "Returns the set", "the empty set", "addConcept(7): 0; shatteredSet(0): 0");
        sizeOutOfRange(s, 27, "BAD_ARGUMENT if the size is out of range (checked first)", "shatteredSet");
        String none = "NONE if no set of the size is shattered";
        s.promise(27, none, "an empty class", "shatteredSet(0): NONE; shatteredSet(1): NONE; shatteredSet(3): NONE");
        s.promise(27, none, "one concept", "addConcept(5): 0; shatteredSet(1): NONE; shatteredSet(3): NONE");
        s.promise(27, none, "one trace is missing", "addConcept(0): 0; addConcept(2): 1; addConcept(4): 2; shatteredSet(2): NONE");
        s.promise(27, none, "more points than 20 concepts shatter", FULL_CLASS, "shatteredSet(3): NONE; shatteredSet(5): NONE",
                "shatteredSet(8): NONE");
    }

    private static void shatteredCount(Sentences s) {
        String number = "Returns the number of shattered sets of a given size";
        s.promise(28, number, "an empty class", "shatteredCount(0): 0; shatteredCount(3): 0");
        s.promise(28, number, "the empty set is one", "addConcept(5): 0; shatteredCount(0): 1; shatteredCount(1): 0");
        s.promise(28, number, "a full class", FULL_CLASS, "shatteredCount(1): 8; shatteredCount(2): 12; shatteredCount(3): 0");
        s.promise(28, "size: the size, 0 to m", "0 and m", PAIR, "shatteredCount(0): 1; shatteredCount(3): 0; reset(2): 3",
                "addConcept(0): 0; addConcept(1): 1; addConcept(2): 2; addConcept(3): 3; shatteredCount(2): 1");
        s.promise(28, "Returns the number", "those of the size alone", PAIR, "shatteredCount(1): 2; shatteredCount(2): 1");
        sizeOutOfRange(s, 28, "BAD_ARGUMENT if the size is out of range", "shatteredCount");
    }

    private static void growth(Sentences s) {
        String most = "Returns the maximum number of traces on a set of a given size";
        s.promise(29, most, "an empty class", "growth(0): 0; growth(1): 0; growth(3): 0");
        s.promise(29, most, "on the empty set", "addConcept(0): 0; addConcept(1): 1; growth(0): 1");
        s.promise(29, most, "on the last set of the size", "addConcept(0): 0; addConcept(2): 1; addConcept(4): 2; growth(2): 3");
        s.promise(29, most, "a full class", FULL_CLASS, "growth(8): 20; growth(1): 2; growth(2): 4");
        s.promise(29, "size: the size, 0 to m", "0 and m", PAIR, "growth(0): 1; growth(3): 4; reset(8): 3",
                "addConcept(0): 0; addConcept(255): 1; growth(8): 2; growth(0): 1");
        s.promise(29, "Returns the maximum", "of sets with fewer and with more traces", PAIR, "growth(1): 2; growth(2): 4");
        sizeOutOfRange(s, 29, "BAD_ARGUMENT if the size is out of range", "growth");
    }
}
