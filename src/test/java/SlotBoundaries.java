/** The sentences of promises 41 to 49. */
final class SlotBoundaries {
    private static final String FULL_CLASS = "reset(8): 3; addIntervals(): 20";
    /** Arrays of five elements of each type, 1 to 4 and 0. */
    private static final String[] FILLED = {filled(0), filled(1), filled(2), filled(3)};

    private SlotBoundaries() { }

    static void test(Sentences s) {
        allocate(s);
        release(s);
        putElement(s);
        element(s);
        copies(s);
        copyErrors(s);
        loadClass(s);
        storeScores(s);
        snapshot(s);
        restore(s);
    }

    private static String filled(int type) {
        return "allocate(1, " + type + ", 5): 5; putElement(1, 0, 1): 1; putElement(1, 1, 2): 1; putElement(1, 2, 3): 1;"
                + "putElement(1, 3, 4): 1";
    }

    private static void allocate(Sentences s) {
        String stores = "Stores a new array, filled with 0, in an array slot";
        for (int type = 0; type < 4; type++) {
            s.promise(41, stores, "in place of another array of type " + type, FILLED[type],
                    "allocate(1, " + type + ", 5): 5; element(1, 0): 0; element(1, 3): 0; element(1, 5): NO_VALUE");
        }
        s.promise(41, stores, "of another type and size", FILLED[2], "allocate(1, 0, 2): 2; element(1, 0): 0; element(1, 1): 0",
                "element(1, 2): NO_VALUE; putElement(1, 0, 128): 1; element(1, 0): -128; allocate(1, 2, 5): 5",
                "element(1, 3): 0");
        s.promise(41, stores, "after a release", FILLED[3], "release(1): 1; allocate(1, 3, 5): 5; element(1, 0): 0; element(1, 3): 0");
        s.promise(41, "slot: the slot, 0 to 3", "0 and 3", "allocate(0, 0, 1): 1; allocate(3, 0, 1): 1; element(0, 0): 0",
                "element(3, 0): 0; element(1, 0): NO_VALUE");
        String types = "type: the element type: 0 byte, 1 short, 2 long, 3 double";
        s.promise(41, types, "what each makes of 2^53 + 33009", "allocate(0, 0, 1): 1; allocate(1, 1, 1): 1; allocate(2, 2, 1): 1",
                "allocate(3, 3, 1): 1; putElement(0, 0, 9007199254774001): 1; putElement(1, 0, 9007199254774001): 1",
                "putElement(2, 0, 9007199254774001): 1; putElement(3, 0, 9007199254774001): 1; element(0, 0): -15",
                "element(1, 0): -32527; element(2, 0): 9007199254774001; element(3, 0): 9007199254774000");
        s.promise(41, "size: the number of elements", "0", "allocate(0, 1, 0): 0; element(0, 0): NO_VALUE; release(0): 1");
        s.promise(41, "size: the number of elements", "1", "allocate(0, 1, 1): 1; element(0, 0): 0; element(0, 1): NO_VALUE");
        s.promise(41, "size: the number of elements", "40", "allocate(0, 1, 40): 40; element(0, 39): 0; element(0, 40): NO_VALUE",
                "putElement(0, 39, 5): 1; element(0, 39): 5");
        s.promise(41, "Returns the size", "0, 1 and 40", "allocate(0, 3, 0): 0; allocate(0, 3, 1): 1; allocate(0, 3, 40): 40");
        String first = "BAD_ARGUMENT if the slot or the type is out of range or the size is above 40 (checked first)";
        s.promise(41, first, "the slot is too small", FILLED[2], "allocate(-1, 0, 1): BAD_ARGUMENT",
                "allocate(MIN_INT, 0, 1): BAD_ARGUMENT; element(1, 3): 4");
        s.promise(41, first, "the slot is too large", FILLED[2], "allocate(4, 0, 1): BAD_ARGUMENT",
                "allocate(MAX_INT, 0, 1): BAD_ARGUMENT; element(1, 3): 4");
        s.promise(41, first, "the type is too small", FILLED[2], "allocate(1, -1, 1): BAD_ARGUMENT",
                "allocate(1, MIN_INT, 1): BAD_ARGUMENT; element(1, 3): 4");
        s.promise(41, first, "the type is too large", FILLED[2], "allocate(1, 4, 1): BAD_ARGUMENT",
                "allocate(1, MAX_INT, 1): BAD_ARGUMENT; element(1, 3): 4");
        s.promise(41, first, "the size is above 40", FILLED[2], "allocate(1, 2, 41): BAD_ARGUMENT",
                "allocate(1, 2, MAX_INT): BAD_ARGUMENT; allocate(0, 2, 41): BAD_ARGUMENT; element(1, 3): 4; release(0): 0");
        s.promise(41, first, "a negative size too", "allocate(4, 0, -1): BAD_ARGUMENT; allocate(-1, 0, -1): BAD_ARGUMENT",
                "allocate(0, 4, -1): BAD_ARGUMENT; allocate(0, -1, -1): BAD_ARGUMENT");
        s.promise(41, "NEGATIVE_SIZE", "-1 and the least int", "allocate(0, 0, -1): NEGATIVE_SIZE",
                "allocate(3, 3, MIN_INT): NEGATIVE_SIZE; release(0): 0; release(3): 0");
        s.promise(41, "NEGATIVE_SIZE", "the array in the slot stays", FILLED[1], "allocate(1, 1, -1): NEGATIVE_SIZE; element(1, 3): 4");
    }

    private static void release(Sentences s) {
        s.promise(42, "Empties an array slot", "that slot alone", FILLED[0], "allocate(0, 0, 1): 1; allocate(2, 0, 1): 1",
                "release(1): 1; element(1, 0): NO_VALUE; putElement(1, 0, 1): EMPTY_SLOT; release(0): 1; release(2): 1");
        s.promise(42, "slot: the slot, 0 to 3", "0 and 3", "allocate(0, 2, 1): 1; allocate(3, 2, 1): 1; release(0): 1; release(3): 1");
        String returns = "Returns 1 if it held an array, 0 if it was empty";
        s.promise(42, returns, "empty from the beginning", "release(0): 0; release(1): 0; release(2): 0; release(3): 0");
        s.promise(42, returns, "emptied before", "allocate(2, 3, 1): 1; release(2): 1; release(2): 0");
        s.promise(42, returns, "an array without elements", "allocate(2, 3, 0): 0; release(2): 1; release(2): 0");
        s.promise(42, returns, "a refused array is none", "allocate(2, 3, -1): NEGATIVE_SIZE; release(2): 0");
        s.promise(42, "BAD_ARGUMENT if the slot is out of range", "too small", FILLED[1], "release(-1): BAD_ARGUMENT",
                "release(MIN_INT): BAD_ARGUMENT; element(1, 3): 4");
        s.promise(42, "BAD_ARGUMENT if the slot is out of range", "too large", FILLED[1], "release(4): BAD_ARGUMENT",
                "release(MAX_INT): BAD_ARGUMENT; element(1, 3): 4");
    }

    private static void putElement(Sentences s) {
        s.promise(43, "Sets an array element", "that element alone", FILLED[2], "putElement(1, 2, 9): 1; element(1, 1): 2",
                "element(1, 2): 9; element(1, 3): 4");
        String cast = "The value is converted to the element type as by a Java cast";
        s.promise(43, cast, "bytes wrap around", "allocate(0, 0, 1): 1; putElement(0, 0, 127): 1; element(0, 0): 127",
                "putElement(0, 0, 128): 1; element(0, 0): -128; putElement(0, 0, -128): 1; element(0, 0): -128",
                "putElement(0, 0, -129): 1; element(0, 0): 127; putElement(0, 0, 256): 1; element(0, 0): 0",
                "putElement(0, 0, MAX_LONG): 1; element(0, 0): -1; putElement(0, 0, MIN_LONG): 1; element(0, 0): 0");
        s.promise(43, cast, "shorts wrap around", "allocate(0, 1, 1): 1; putElement(0, 0, 32767): 1; element(0, 0): 32767",
                "putElement(0, 0, 32768): 1; element(0, 0): -32768; putElement(0, 0, -32768): 1; element(0, 0): -32768",
                "putElement(0, 0, -32769): 1; element(0, 0): 32767; putElement(0, 0, 65536): 1; element(0, 0): 0",
                "putElement(0, 0, MAX_LONG): 1; element(0, 0): -1; putElement(0, 0, MIN_LONG): 1; element(0, 0): 0");
        s.promise(43, cast, "longs stay", "allocate(0, 2, 1): 1; putElement(0, 0, MAX_LONG): 1; element(0, 0): MAX_LONG",
                "putElement(0, 0, MIN_LONG): 1; element(0, 0): MIN_LONG; putElement(0, 0, 9007199254740993): 1",
                "element(0, 0): 9007199254740993");
        s.promise(43, cast, "doubles", "allocate(0, 3, 1): 1; putElement(0, 0, 9007199254740993): 1",
                "element(0, 0): 9007199254740992; putElement(0, 0, MAX_LONG): 1; element(0, 0): MAX_LONG",
                "putElement(0, 0, MIN_LONG): 1; element(0, 0): MIN_LONG; putElement(0, 0, -1): 1; element(0, 0): -1");
        s.promise(43, "slot: the slot", "0 and 3", "allocate(0, 0, 1): 1; allocate(3, 0, 1): 1; putElement(0, 0, 1): 1",
                "putElement(3, 0, 2): 1; element(0, 0): 1; element(3, 0): 2");
        s.promise(43, "index: the index", "the first and the last of 40", "allocate(0, 0, 40): 40; putElement(0, 0, 1): 1",
                "putElement(0, 39, 2): 1; element(0, 0): 1; element(0, 39): 2; element(0, 38): 0");
        s.promise(43, "value: the value", "0 and the bounds of long", "allocate(0, 2, 1): 1; putElement(0, 0, MIN_LONG): 1",
                "putElement(0, 0, 0): 1; element(0, 0): 0; putElement(0, 0, MAX_LONG): 1; element(0, 0): MAX_LONG");
        s.promise(43, "Returns 1", "also for what is there already", "allocate(0, 2, 1): 1; putElement(0, 0, 0): 1",
                "putElement(0, 0, 7): 1; putElement(0, 0, 7): 1");
        String first = "BAD_ARGUMENT if the slot is out of range (checked first)";
        s.promise(43, first, "too small", "putElement(-1, 0, 0): BAD_ARGUMENT; putElement(MIN_INT, 0, 0): BAD_ARGUMENT");
        s.promise(43, first, "too large", "putElement(4, 0, 0): BAD_ARGUMENT; putElement(MAX_INT, 0, 0): BAD_ARGUMENT");
        s.promise(43, first, "a wrong index too", FILLED[0], "putElement(4, 5, 0): BAD_ARGUMENT; putElement(-1, -1, 0): BAD_ARGUMENT");
        String second = "EMPTY_SLOT (checked second)";
        s.promise(43, second, "empty from the beginning", "putElement(0, 0, 1): EMPTY_SLOT; putElement(3, 0, 1): EMPTY_SLOT");
        s.promise(43, second, "released", FILLED[0], "release(1): 1; putElement(1, 0, 1): EMPTY_SLOT");
        s.promise(43, second, "a wrong index too", "putElement(0, -1, 1): EMPTY_SLOT; putElement(0, 40, 1): EMPTY_SLOT");
        String range = "INDEX_OUT_OF_RANGE";
        for (int type = 0; type < 4; type++) {
            s.promise(43, range, "too small, type " + type, FILLED[type], "putElement(1, -1, 9): INDEX_OUT_OF_RANGE",
                    "putElement(1, MIN_INT, 9): INDEX_OUT_OF_RANGE; element(1, 0): 1");
            s.promise(43, range, "too large, type " + type, FILLED[type], "putElement(1, 5, 9): INDEX_OUT_OF_RANGE",
                    "putElement(1, MAX_INT, 9): INDEX_OUT_OF_RANGE; element(1, 4): 0");
        }
        s.promise(43, range, "an array without elements", "allocate(0, 0, 0): 0; putElement(0, 0, 1): INDEX_OUT_OF_RANGE");
        s.promise(43, range, "40 elements", "allocate(0, 0, 40): 40; putElement(0, 40, 1): INDEX_OUT_OF_RANGE");
    }

    private static void element(Sentences s) {
        String cast = "Returns an array element cast to long as by Java: the fractional part is dropped, NaN gives 0, and"
                + " values beyond the range of long give its bounds";
        s.promise(44, cast, "the fractional part", "addConcept(0): 0; addConcept(1): 1; setScore(0, 19, 10): 0",
                "setScore(1, -19, 10): 0; allocate(0, 3, 2): 2; storeScores(0): 2; element(0, 0): 1; element(0, 1): -1");
        s.promise(44, cast, "less than 1", "addConcept(0): 0; addConcept(1): 1; setScore(0, 9, 10): 0; setScore(1, -9, 10): 0",
                "allocate(0, 3, 2): 2; storeScores(0): 2; element(0, 0): 0; element(0, 1): 0");
        s.promise(44, cast, "NaN", "addConcept(0): 0; addConcept(1): 1; setScore(1, 1, 1): 0; setScore(1, 0, 0): 0",
                "allocate(0, 3, 2): 2; putElement(0, 0, 5): 1; putElement(0, 1, 5): 1; storeScores(0): 2; element(0, 0): 0",
                "element(0, 1): 0");
        s.promise(44, cast, "beyond the range of long", "addConcept(0): 0; addConcept(1): 1; setScore(0, 1, 0): 0",
                "setScore(1, -1, 0): 0; allocate(0, 3, 2): 2; storeScores(0): 2; element(0, 0): MAX_LONG",
                "element(0, 1): MIN_LONG");
        s.promise(44, cast, "-0.0", "addConcept(0): 0; setScore(0, 0, -1): 0; allocate(0, 3, 1): 1; storeScores(0): 1",
                "element(0, 0): 0");
        s.promise(44, cast, "2^63 as a double", "allocate(0, 3, 1): 1; putElement(0, 0, MAX_LONG): 1; element(0, 0): MAX_LONG");
        s.promise(44, "slot: the slot", "0 and 3", "allocate(0, 0, 1): 1; allocate(3, 1, 1): 1; putElement(0, 0, 1): 1",
                "putElement(3, 0, 2): 1; element(0, 0): 1; element(3, 0): 2");
        s.promise(44, "index: the index", "the first and the last of 40", "allocate(2, 3, 40): 40; putElement(2, 0, 1): 1",
                "putElement(2, 39, 2): 1; element(2, 0): 1; element(2, 39): 2; element(2, 20): 0");
        s.promise(44, "Returns the element", "bytes and shorts keep their signs", "allocate(0, 0, 1): 1; allocate(1, 1, 1): 1",
                "putElement(0, 0, -1): 1; putElement(1, 0, -2): 1; element(0, 0): -1; element(1, 0): -2");
        String none = "NO_VALUE if the slot is out of range or empty, or the index is out of range";
        s.promise(44, none, "the slot is too small", "element(-1, 0): NO_VALUE; element(MIN_INT, 0): NO_VALUE");
        s.promise(44, none, "the slot is too large", "element(4, 0): NO_VALUE; element(MAX_INT, 0): NO_VALUE");
        s.promise(44, none, "an empty slot", "element(0, 0): NO_VALUE; element(3, 0): NO_VALUE", FILLED[2],
                "release(1): 1; element(1, 0): NO_VALUE");
        s.promise(44, none, "an array without elements", "allocate(0, 3, 0): 0; element(0, 0): NO_VALUE");
        for (int type = 0; type < 4; type++) {
            s.promise(44, none, "the index is too small, type " + type, FILLED[type], "element(1, -1): NO_VALUE",
                    "element(1, MIN_INT): NO_VALUE");
            s.promise(44, none, "the index is too large, type " + type, FILLED[type], "element(1, 5): NO_VALUE",
                    "element(1, MAX_INT): NO_VALUE");
        }
        s.promise(44, none, "40 elements", "allocate(0, 0, 40): 40; element(0, 40): NO_VALUE");
    }

    private static void copies(Sentences s) {
        String copies = "Copies elements from one array to another one, or within one array, as System.arraycopy does";
        for (int type = 0; type < 4; type++) {
            s.promise(45, copies, "to another array of type " + type, FILLED[type], "allocate(2, " + type + ", 3): 3",
                    "putElement(2, 2, 9): 1; copyElements(1, 2, 2, 0, 2): 2; element(2, 0): 3; element(2, 1): 4",
                    "element(2, 2): 9; element(1, 2): 3; putElement(1, 2, 8): 1; element(2, 0): 3");
            s.promise(45, copies, "forward within one array of type " + type, FILLED[type],
                    "copyElements(1, 0, 1, 1, 4): 4; element(1, 0): 1; element(1, 1): 1; element(1, 2): 2; element(1, 3): 3",
                    "element(1, 4): 4");
            s.promise(45, copies, "backward within one array of type " + type, FILLED[type],
                    "copyElements(1, 1, 1, 0, 4): 4; element(1, 0): 2; element(1, 1): 3; element(1, 2): 4; element(1, 3): 0",
                    "element(1, 4): 0");
            s.promise(45, copies, "onto itself, type " + type, FILLED[type],
                    "copyElements(1, 0, 1, 0, 5): 5; element(1, 0): 1; element(1, 3): 4");
        }
        s.promise(45, copies, "doubles that are no longs", "addConcept(0): 0; addConcept(1): 1; setScore(0, 1, 0): 0",
                "setScore(1, 7, 2): 0; allocate(0, 3, 2): 2; allocate(1, 3, 2): 2; storeScores(0): 2",
                "copyElements(0, 0, 1, 0, 2): 2; element(1, 0): MAX_LONG; element(1, 1): 3");
        s.promise(45, "source: the slot to copy from", "0 and 3", "allocate(0, 2, 1): 1; allocate(3, 2, 1): 1",
                "putElement(0, 0, 5): 1; copyElements(0, 0, 3, 0, 1): 1; element(3, 0): 5; putElement(3, 0, 6): 1",
                "copyElements(3, 0, 0, 0, 1): 1; element(0, 0): 6");
        s.promise(45, "target: the slot to copy to", "the source stays", "allocate(0, 2, 1): 1; allocate(3, 2, 1): 1",
                "putElement(0, 0, 5): 1; putElement(3, 0, 7): 1; copyElements(0, 0, 3, 0, 1): 1; element(0, 0): 5",
                "element(3, 0): 5");
        s.promise(45, "sourceIndex: the index of the first element to copy", "the last one", FILLED[1],
                "copyElements(1, 3, 1, 0, 1): 1; element(1, 0): 4; element(1, 1): 2");
        s.promise(45, "sourceIndex: the index of the first element to copy", "just behind the last one", FILLED[1],
                "copyElements(1, 5, 1, 0, 0): 0");
        s.promise(45, "targetIndex: the index of the first element to overwrite", "the last one", FILLED[1],
                "copyElements(1, 0, 1, 4, 1): 1; element(1, 4): 1; element(1, 3): 4");
        s.promise(45, "targetIndex: the index of the first element to overwrite", "just behind the last one", FILLED[1],
                "copyElements(1, 0, 1, 5, 0): 0");
        s.promise(45, "count: the number of elements", "0", FILLED[1], "allocate(2, 1, 0): 0; copyElements(1, 0, 2, 0, 0): 0",
                "copyElements(2, 0, 1, 0, 0): 0; copyElements(2, 0, 2, 0, 0): 0; element(1, 0): 1");
        s.promise(45, "count: the number of elements", "40", "allocate(0, 0, 40): 40; allocate(1, 0, 40): 40",
                "putElement(0, 0, 1): 1; putElement(0, 39, 2): 1; copyElements(0, 0, 1, 0, 40): 40; element(1, 0): 1",
                "element(1, 39): 2");
        s.promise(45, "Returns the count", "0, 1 and 5", FILLED[0], "allocate(2, 0, 5): 5; copyElements(1, 0, 2, 0, 0): 0",
                "copyElements(1, 0, 2, 0, 1): 1; copyElements(1, 0, 2, 0, 5): 5");
    }

    private static void copyErrors(Sentences s) {
        String first = "BAD_ARGUMENT if a slot is out of range (checked first)";
        s.promise(45, first, "the source", FILLED[0], "copyElements(-1, 0, 1, 0, 1): BAD_ARGUMENT",
                "copyElements(4, 0, 1, 0, 1): BAD_ARGUMENT; copyElements(MIN_INT, 0, 1, 0, 1): BAD_ARGUMENT",
                "copyElements(MAX_INT, 0, 1, 0, 1): BAD_ARGUMENT");
        s.promise(45, first, "the target", FILLED[0], "copyElements(1, 0, -1, 0, 1): BAD_ARGUMENT",
                "copyElements(1, 0, 4, 0, 1): BAD_ARGUMENT; copyElements(1, 0, MIN_INT, 0, 1): BAD_ARGUMENT",
                "copyElements(1, 0, MAX_INT, 0, 1): BAD_ARGUMENT");
        s.promise(45, first, "both", "copyElements(-1, 0, 4, 0, 0): BAD_ARGUMENT");
        s.promise(45, first, "an empty slot too", "copyElements(0, 0, 4, 0, 0): BAD_ARGUMENT; copyElements(-1, 0, 0, 0, 0): BAD_ARGUMENT");
        s.promise(45, first, "a wrong index too", FILLED[0], "copyElements(1, -1, 4, 0, 9): BAD_ARGUMENT",
                "copyElements(-1, 0, 1, 9, -1): BAD_ARGUMENT");
        String second = "EMPTY_SLOT if either slot is empty (checked second)";
        s.promise(45, second, "the source", FILLED[0], "copyElements(0, 0, 1, 0, 0): EMPTY_SLOT");
        s.promise(45, second, "the target", FILLED[0], "copyElements(1, 0, 0, 0, 0): EMPTY_SLOT");
        s.promise(45, second, "both, and the same one twice", "copyElements(0, 0, 1, 0, 0): EMPTY_SLOT; copyElements(2, 0, 2, 0, 0): EMPTY_SLOT");
        s.promise(45, second, "a wrong index too", FILLED[0], "copyElements(0, -1, 1, 0, 1): EMPTY_SLOT",
                "copyElements(1, 0, 0, 0, -1): EMPTY_SLOT; copyElements(1, 9, 0, 9, 9): EMPTY_SLOT");
        String third = "WRONG_TYPE if the element types differ (checked third)";
        for (int type = 0; type < 4; type++) {
            for (int other = 0; other < 4; other++) {
                if (type != other) {
                    s.promise(45, third, "from type " + type + " to type " + other, FILLED[type],
                            "allocate(2, " + other + ", 5): 5; copyElements(1, 0, 2, 0, 1): WRONG_TYPE; element(2, 0): 0");
                }
            }
        }
        s.promise(45, third, "no elements", FILLED[0], "allocate(2, 1, 0): 0; copyElements(1, 0, 2, 0, 0): WRONG_TYPE");
        s.promise(45, third, "a wrong index too", FILLED[0], "allocate(2, 1, 5): 5; copyElements(1, -1, 2, 0, 1): WRONG_TYPE",
                "copyElements(1, 0, 2, -1, 1): WRONG_TYPE; copyElements(1, 0, 2, 0, -1): WRONG_TYPE",
                "copyElements(1, 0, 2, 0, 6): WRONG_TYPE");
        String range = "INDEX_OUT_OF_RANGE if an index or the count is negative, or an end is beyond the size of either array";
        String two = FILLED[2] + "; allocate(2, 2, 2): 2; putElement(2, 0, 7): 1; putElement(2, 1, 8): 1";
        s.promise(45, range, "the source's index is negative", two, "copyElements(1, -1, 2, 0, 1): INDEX_OUT_OF_RANGE",
                "copyElements(1, -1, 2, 0, 0): INDEX_OUT_OF_RANGE; copyElements(1, MIN_INT, 2, 0, 1): INDEX_OUT_OF_RANGE");
        s.promise(45, range, "the target's index is negative", two, "copyElements(1, 0, 2, -1, 1): INDEX_OUT_OF_RANGE",
                "copyElements(1, 0, 2, -1, 0): INDEX_OUT_OF_RANGE; copyElements(1, 0, 2, MIN_INT, 1): INDEX_OUT_OF_RANGE");
        s.promise(45, range, "the count is negative", two, "copyElements(1, 0, 2, 0, -1): INDEX_OUT_OF_RANGE",
                "copyElements(1, 3, 2, 1, -1): INDEX_OUT_OF_RANGE; copyElements(1, 0, 2, 0, MIN_INT): INDEX_OUT_OF_RANGE");
        s.promise(45, range, "beyond the source", two, "copyElements(2, 0, 1, 0, 3): INDEX_OUT_OF_RANGE",
                "copyElements(2, 1, 1, 0, 2): INDEX_OUT_OF_RANGE; copyElements(2, 2, 1, 0, 1): INDEX_OUT_OF_RANGE",
                "element(1, 0): 1; copyElements(2, 0, 1, 0, 2): 2");
        s.promise(45, range, "beyond the target", two, "copyElements(1, 0, 2, 0, 3): INDEX_OUT_OF_RANGE",
                "copyElements(1, 0, 2, 1, 2): INDEX_OUT_OF_RANGE; copyElements(1, 0, 2, 2, 1): INDEX_OUT_OF_RANGE",
                "element(2, 0): 7; element(2, 1): 8; copyElements(1, 0, 2, 0, 2): 2");
        s.promise(45, range, "no elements behind the end", two, "copyElements(1, 6, 2, 0, 0): INDEX_OUT_OF_RANGE",
                "copyElements(1, 0, 2, 3, 0): INDEX_OUT_OF_RANGE; copyElements(1, 5, 2, 2, 0): 0");
        s.promise(45, range, "an end that wraps around", two, "copyElements(1, 1, 2, 0, MAX_INT): INDEX_OUT_OF_RANGE",
                "copyElements(1, MAX_INT, 2, 0, 1): INDEX_OUT_OF_RANGE; copyElements(1, 0, 2, MAX_INT, 1): INDEX_OUT_OF_RANGE",
                "copyElements(1, MAX_INT, 2, MAX_INT, MAX_INT): INDEX_OUT_OF_RANGE",
                "copyElements(1, 0, 2, 1, MAX_INT): INDEX_OUT_OF_RANGE");
        s.promise(45, range, "within one array", FILLED[2], "copyElements(1, 0, 1, 1, 5): INDEX_OUT_OF_RANGE",
                "copyElements(1, 1, 1, 0, 5): INDEX_OUT_OF_RANGE; element(1, 0): 1; element(1, 1): 2");
        s.promise(45, range, "an array without elements", FILLED[2], "allocate(2, 2, 0): 0",
                "copyElements(1, 0, 2, 0, 1): INDEX_OUT_OF_RANGE; copyElements(2, 0, 1, 0, 1): INDEX_OUT_OF_RANGE");
    }

    private static void loadClass(Sentences s) {
        String[] numbers = new String[40];
        for (int index = 0; index < 40; index++) {
            numbers[index] = "putElement(0, " + index + ", " + (200 - 2 * index) + "): 1";
        }
        String forty = "reset(8): 3; allocate(0, 1, 40): 40; " + String.join(";", numbers);
        String replaces = "Replaces the class by the concepts in an array of shorts";
        s.promise(46, replaces, "nothing of the old class stays", "addConcept(5): 0; addConcept(6): 1; allocate(0, 1, 1): 1",
                "putElement(0, 0, 3): 1; loadClass(0): 1; concept(0): 3; numberOf(5): NONE; concept(1): NO_SUCH_CONCEPT");
        s.promise(46, replaces, "an array without elements", "addConcept(5): 0; allocate(0, 1, 0): 0; loadClass(0): 0; conceptCount(): 0");
        s.promise(46, replaces, "no element is a set of existing points", "addConcept(5): 0; allocate(0, 1, 2): 2",
                "putElement(0, 0, -1): 1; putElement(0, 1, 8): 1; loadClass(0): 0; conceptCount(): 0");
        s.promise(46, replaces, "a full class", FULL_CLASS, "allocate(3, 1, 1): 1; loadClass(3): 1; concept(0): 0; pointCount(): 8");
        String read = "The elements are read in ascending order; each that is a set of existing points becomes a concept,"
                + " unless it is equal to one that was read before; other elements are skipped";
        s.promise(46, read, "the least and the largest set", "allocate(0, 1, 4): 4; putElement(0, 0, 7): 1; putElement(0, 1, 8): 1",
                "putElement(0, 2, -1): 1; loadClass(0): 2; concept(0): 7; concept(1): 0");
        s.promise(46, read, "one point and eight points", "allocate(0, 1, 3): 3; putElement(0, 0, 255): 1",
                "putElement(0, 1, 256): 1; putElement(0, 2, 1): 1; reset(8): 3; loadClass(0): 2; concept(0): 255; concept(1): 1",
                "reset(1): 8; loadClass(0): 1; concept(0): 1");
        s.promise(46, read, "equal to one that was read before", "allocate(0, 1, 4): 4; putElement(0, 0, 3): 1",
                "putElement(0, 1, 5): 1; putElement(0, 2, 3): 1; putElement(0, 3, 6): 1; loadClass(0): 3; concept(0): 3",
                "concept(1): 5; concept(2): 6");
        s.promise(46, read, "equal to one of the old class is no matter", "addConcept(6): 0; addConcept(3): 1; allocate(0, 1, 1): 1",
                "putElement(0, 0, 3): 1; loadClass(0): 1; concept(0): 3");
        s.promise(46, read, "the bounds of short", "allocate(0, 1, 3): 3; putElement(0, 0, 32767): 1; putElement(0, 1, -32768): 1",
                "putElement(0, 2, 65537): 1; loadClass(0): 1; concept(0): 1");
        s.promise(46, "The method stops when the class has 20 concepts", "40 elements", forty,
                "loadClass(0): 20; concept(0): 200; concept(19): 162; numberOf(160): NONE; addConcept(0): FULL");
        s.promise(46, "The method stops when the class has 20 concepts", "what is skipped does not count", forty,
                "putElement(0, 0, -5): 1; putElement(0, 1, 196): 1; loadClass(0): 20; concept(0): 196; concept(19): 158");
        String nan = "All scores are NaN, and the sample becomes empty";
        s.promise(46, nan, "where a score was a number", "addConcept(0): 0; setScore(0, 1, 1): 0; allocate(0, 1, 1): 1",
                "loadClass(0): 1; compareScores(0, 0): 3");
        s.promise(46, nan, "a full sample", "addConcept(0): 0; addExamples(0, 7): 3; addExamples(0, 7): 6; addExamples(0, 7): 9",
                "addExamples(0, 7): 12; allocate(0, 1, 1): 1; loadClass(0): 1; clearSample(): 0; example(0): NONE");
        s.promise(46, nan, "without elements too", "addExample(0, 1): 1; allocate(0, 1, 0): 0; loadClass(0): 0; clearSample(): 0");
        s.promise(46, "slot: the slot", "0 and 3", "allocate(0, 1, 1): 1; allocate(3, 1, 2): 2; putElement(3, 0, 4): 1",
                "loadClass(0): 1; concept(0): 0; loadClass(3): 2; concept(0): 4; concept(1): 0");
        s.promise(46, "Returns the number of concepts", "0 and 1", "allocate(0, 1, 0): 0; loadClass(0): 0; allocate(0, 1, 40): 40",
                "loadClass(0): 1");
        String begin = "addConcept(5): 0; setScore(0, 1, 1): 0; addExample(0, 1): 1";
        s.promise(46, "BAD_ARGUMENT if the slot is out of range (checked first)", "too small", begin,
                "loadClass(-1): BAD_ARGUMENT; loadClass(MIN_INT): BAD_ARGUMENT; concept(0): 5; example(0): 1");
        s.promise(46, "BAD_ARGUMENT if the slot is out of range (checked first)", "too large", begin,
                "loadClass(4): BAD_ARGUMENT; loadClass(MAX_INT): BAD_ARGUMENT; concept(0): 5; example(0): 1");
        s.promise(46, "EMPTY_SLOT (checked second)", "empty from the beginning", begin, "loadClass(0): EMPTY_SLOT",
                "loadClass(3): EMPTY_SLOT; concept(0): 5; example(0): 1");
        s.promise(46, "EMPTY_SLOT (checked second)", "released", begin, "allocate(0, 1, 2): 2; release(0): 1",
                "loadClass(0): EMPTY_SLOT; concept(0): 5; example(0): 1");
        for (int type : new int[] {0, 2, 3}) {
            s.promise(46, "WRONG_TYPE if the array does not hold shorts", "type " + type, begin,
                    "allocate(0, " + type + ", 2): 2; loadClass(0): WRONG_TYPE; allocate(0, " + type + ", 0): 0",
                    "loadClass(0): WRONG_TYPE; concept(0): 5; setScore(0, 1, 1): 1; example(0): 1");
        }
    }

    private static void storeScores(Sentences s) {
        String two = "addConcept(1): 0; addConcept(2): 1; setScore(0, 5, 1): 0; setScore(1, 6, 1): 0";
        s.promise(47, "Copies the scores to an array of doubles", "just as many elements", two,
                "allocate(0, 3, 2): 2; storeScores(0): 2; element(0, 0): 5; element(0, 1): 6; setScore(0, 5, 1): 1");
        s.promise(47, "Copies the scores to an array of doubles", "20 concepts and 20 elements", FULL_CLASS,
                "setScore(0, 1, 1): 0; setScore(19, 2, 1): 0; allocate(0, 3, 20): 20; storeScores(0): 20; element(0, 0): 1",
                "element(0, 19): 2");
        String becomes = "The element at the index of each concept becomes its score; further elements stay";
        s.promise(47, becomes, "one element more", two, "allocate(0, 3, 3): 3; putElement(0, 2, 9): 1; storeScores(0): 2",
                "element(0, 0): 5; element(0, 1): 6; element(0, 2): 9");
        s.promise(47, becomes, "NaN in place of a number", "addConcept(1): 0; allocate(0, 3, 2): 2; putElement(0, 0, 7): 1",
                "putElement(0, 1, 8): 1; storeScores(0): 1; element(0, 0): 0; element(0, 1): 8");
        s.promise(47, becomes, "infinite scores", "addConcept(1): 0; addConcept(2): 1; setScore(0, 1, 0): 0; setScore(1, -1, 0): 0",
                "allocate(0, 3, 2): 2; storeScores(0): 2; element(0, 0): MAX_LONG; element(0, 1): MIN_LONG");
        s.promise(47, becomes, "no concepts", "allocate(0, 3, 1): 1; putElement(0, 0, 7): 1; storeScores(0): 0; element(0, 0): 7");
        s.promise(47, becomes, "a copy that later scores leave alone", two, "allocate(0, 3, 2): 2; storeScores(0): 2",
                "setScore(0, 9, 1): 0; element(0, 0): 5; putElement(0, 1, 3): 1; setScore(1, 6, 1): 1");
        s.promise(47, "slot: the slot", "0 and 3", two, "allocate(0, 3, 2): 2; allocate(3, 3, 2): 2; storeScores(3): 2",
                "element(0, 0): 0; element(3, 0): 5; storeScores(0): 2; element(0, 0): 5");
        s.promise(47, "Returns the number of concepts", "not of elements", two, "allocate(0, 3, 40): 40; storeScores(0): 2");
        s.promise(47, "Returns the number of concepts", "0", "allocate(0, 3, 0): 0; storeScores(0): 0");
        String first = "BAD_ARGUMENT if the slot is out of range (checked first)";
        s.promise(47, first, "too small", two, "storeScores(-1): BAD_ARGUMENT; storeScores(MIN_INT): BAD_ARGUMENT");
        s.promise(47, first, "too large", two, "storeScores(4): BAD_ARGUMENT; storeScores(MAX_INT): BAD_ARGUMENT");
        s.promise(47, "EMPTY_SLOT (checked second)", "empty from the beginning", two, "storeScores(0): EMPTY_SLOT; storeScores(3): EMPTY_SLOT");
        s.promise(47, "EMPTY_SLOT (checked second)", "released, and no concepts", "allocate(0, 3, 2): 2; release(0): 1",
                "storeScores(0): EMPTY_SLOT");
        String third = "WRONG_TYPE if the array does not hold doubles (checked third)";
        for (int type = 0; type < 3; type++) {
            s.promise(47, third, "type " + type, two, "allocate(0, " + type + ", 2): 2; putElement(0, 0, 7): 1",
                    "storeScores(0): WRONG_TYPE; element(0, 0): 7");
            s.promise(47, third, "too few elements too, type " + type, two, "allocate(0, " + type + ", 1): 1; storeScores(0): WRONG_TYPE",
                    "allocate(0, " + type + ", 0): 0; storeScores(0): WRONG_TYPE");
            s.promise(47, third, "no concepts, type " + type, "allocate(0, " + type + ", 1): 1; storeScores(0): WRONG_TYPE");
        }
        String range = "INDEX_OUT_OF_RANGE if it has fewer elements than there are concepts, in which case no element changes";
        s.promise(47, range, "one too few", two, "allocate(0, 3, 1): 1; putElement(0, 0, 7): 1; storeScores(0): INDEX_OUT_OF_RANGE",
                "element(0, 0): 7");
        s.promise(47, range, "no elements", two, "allocate(0, 3, 0): 0; storeScores(0): INDEX_OUT_OF_RANGE");
        s.promise(47, range, "19 elements for 20 concepts", FULL_CLASS, "allocate(0, 3, 19): 19; putElement(0, 18, 7): 1",
                "storeScores(0): INDEX_OUT_OF_RANGE; element(0, 18): 7; removeConcept(0): 19; storeScores(0): 19",
                "element(0, 18): 0");
    }

    private static void snapshot(Sentences s) {
        String takes = "Takes a snapshot of the number of points, the class, the scores and the sample";
        s.promise(48, takes, "a new calculator", "snapshot(): 0; reset(8): 3; addIntervals(): 20; addExample(7, 1): 1; restore(): 0",
                "pointCount(): 3; conceptCount(): 0; clearSample(): 0");
        s.promise(48, takes, "a full class and a full sample", FULL_CLASS, "setScore(0, 1, 3): 0; setScore(19, 1, 0): 0",
                "addExamples(0, 255): 8; addExamples(0, 15): 12; snapshot(): 20; reset(1): 8; addConcept(0): 0; restore(): 20",
                "pointCount(): 8; concept(0): 1; concept(19): 124; setScore(0, 1, 3): 1; setScore(19, 2, 0): 1",
                "compareScores(1, 1): 3; example(0): 1; example(11): 6; addExample(0, 0): FULL; addConcept(0): FULL");
        s.promise(48, takes, "what is there stays as it is", "addConcept(5): 0; setScore(0, 1, 2): 0; addExample(0, 1): 1",
                "snapshot(): 1; pointCount(): 3; concept(0): 5; setScore(0, 1, 2): 1; example(0): 1; versionCount(): 1");
        s.promise(48, takes, "a copy that later calls leave alone", "addConcept(5): 0; setScore(0, 1, 2): 0; addExample(0, 1): 1",
                "snapshot(): 1; setScore(0, 3, 1): 0; addExample(1, 1): 2; complementAll(): 1; addConcept(0): 1; restore(): 1",
                "concept(0): 5; setScore(0, 1, 2): 1; example(0): 1; example(1): NONE; concept(1): NO_SUCH_CONCEPT");
        s.promise(48, takes, "all of it is written over since", "addConcept(5): 0; setScore(0, 1, 2): 0; addExample(0, 1): 1",
                "addExample(2, 0): 2; snapshot(): 1; reset(2): 3; addConcept(2): 0; setScore(0, 3, 1): 0; addExample(1, 1): 1",
                "addExample(1, 0): 2; addExample(1, 1): 3; restore(): 1; pointCount(): 3; concept(0): 5; setScore(0, 1, 2): 1",
                "example(0): 1; example(1): 4; example(2): NONE; versionCount(): 0");
        s.promise(48, "It replaces an earlier snapshot", "a fuller one by an emptier one", "addConcept(5): 0; addConcept(6): 1",
                "addExample(0, 1): 1; snapshot(): 2; removeConcept(0): 1; clearSample(): 1; snapshot(): 1; reset(5): 3",
                "restore(): 1; concept(0): 6; concept(1): NO_SUCH_CONCEPT; example(0): NONE; pointCount(): 3");
        s.promise(48, "It replaces an earlier snapshot", "with other points and scores", "addConcept(1): 0; setScore(0, 1, 1): 0",
                "snapshot(): 1; reset(1): 3; addConcept(1): 0; snapshot(): 1; reset(8): 1; restore(): 1; pointCount(): 1",
                "compareScores(0, 0): 3");
        s.promise(48, "Returns the number of concepts", "0 and 20", "snapshot(): 0; reset(8): 3; addIntervals(): 20; snapshot(): 20");
    }

    private static void restore(Sentences s) {
        s.promise(49, "Restores the snapshot", "all that it holds", "addConcept(5): 0; addConcept(1): 1; setScore(1, 1, 0): 0",
                "addExample(2, 1): 1; snapshot(): 2; reset(8): 3; restore(): 2; pointCount(): 3; concept(0): 5; concept(1): 1",
                "compareScores(0, 0): 3; setScore(1, 1, 0): 1; example(0): 5; versionCount(): 1; version(0): 0");
        s.promise(49, "Restores the snapshot", "what was added since is gone", "snapshot(): 0; addConcept(5): 0; addExample(0, 1): 1",
                "restore(): 0; conceptCount(): 0; example(0): NONE; addConcept(5): 0; compareScores(0, 0): 3");
        s.promise(49, "Restores the snapshot", "at once after it was taken", "addConcept(5): 0; snapshot(): 1; restore(): 1; concept(0): 5");
        s.promise(49, "The snapshot stays available", "twice, with changes between", "addConcept(5): 0; setScore(0, 1, 2): 0",
                "addExample(0, 1): 1; snapshot(): 1; restore(): 1; setScore(0, 1, 1): 0; addExample(1, 0): 2; addConcept(7): 1",
                "restore(): 1; setScore(0, 1, 2): 1; example(1): NONE; conceptCount(): 1");
        s.promise(49, "The snapshot stays available", "one of an empty class", "snapshot(): 0; addConcept(1): 0; restore(): 0",
                "addConcept(2): 0; restore(): 0; conceptCount(): 0");
        s.promise(49, "The snapshot stays available", "after a reset and a restriction", "addConcept(5): 0; snapshot(): 1",
                "reset(1): 3; restore(): 1; restrict(4): 1; restore(): 1; pointCount(): 3; concept(0): 5");
        s.promise(49, "Returns the number of concepts", "0 and 20", "snapshot(): 0; restore(): 0; reset(8): 3; addIntervals(): 20",
                "snapshot(): 20; reset(2): 8; restore(): 20");
        s.promise(49, "NONE if there is no snapshot", "a new object", "restore(): NONE; pointCount(): 3");
        s.promise(49, "NONE if there is no snapshot", "nothing changes", "addConcept(5): 0; setScore(0, 1, 2): 0; addExample(0, 1): 1",
                "restore(): NONE; concept(0): 5; setScore(0, 1, 2): 1; example(0): 1");
        s.promise(49, "NONE if there is no snapshot", "not even after a refused one", "restore(): NONE; snapshot(): 0; restore(): 0");
    }
}
