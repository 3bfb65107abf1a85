/** Promises 25 to 29: traces and shattered sets. */
public final class ShatteringTest {
    public static void main(String[] args) {
        Script s = new Script("ShatteringTest");
        wrongArguments(s);
        emptyClass(s);
        smallClasses(s);
        largeClasses(s);
        s.end();
    }

    private static void wrongArguments(Script s) {
        String[] classes = {"conceptCount(): 0", "addConcept(5): 0"};
        for (String begin : classes) {
            s.fresh("promises 25 to 29: wrong arguments", begin,
                    "traceCount(-1): BAD_ARGUMENT; traceCount(8): BAD_ARGUMENT; traceCount(MIN_INT): BAD_ARGUMENT",
                    "traceCount(MAX_INT): BAD_ARGUMENT");
            for (String method : new String[] {"shatteredSet", "shatteredCount", "growth"}) {
                for (String size : new String[] {"-1", "4", "MIN_INT", "MAX_INT", "32"}) {
                    s.more(method + "(" + size + "): BAD_ARGUMENT");
                }
            }
        }
    }

    private static void emptyClass(Script s) {
        s.fresh("promises 25 to 29: the empty class", "traceCount(0): 0; traceCount(7): 0; dimension(): -1",
                "shatteredSet(0): NONE; shatteredSet(3): NONE; shatteredCount(0): 0; shatteredCount(3): 0",
                "growth(0): 0; growth(3): 0");
    }

    private static void smallClasses(Script s) {
        s.fresh("promises 25 to 29: one concept", "addConcept(5): 0; traceCount(0): 1; traceCount(7): 1",
                "dimension(): 0; shatteredSet(0): 0; shatteredSet(1): NONE; shatteredCount(0): 1",
                "shatteredCount(1): 0; growth(0): 1; growth(3): 1");
        s.fresh("promises 25 to 29: two concepts that differ in one point",
                "addConcept(5): 0; addConcept(1): 1; traceCount(4): 2; traceCount(3): 1; traceCount(7): 2",
                "dimension(): 1; shatteredSet(1): 4; shatteredCount(1): 1; growth(1): 2; growth(2): 2; growth(0): 1");
        s.fresh("promises 25 to 29: a shattered pair that is not the lowest",
                "addConcept(0): 0; addConcept(2): 1; addConcept(4): 2; addConcept(6): 3; dimension(): 2",
                "shatteredSet(2): 6; shatteredCount(2): 1; shatteredSet(1): 2; shatteredCount(1): 2; growth(2): 4",
                "traceCount(6): 4; traceCount(5): 2; traceCount(1): 1; shatteredSet(3): NONE; growth(3): 4");
        s.fresh("promises 25 to 29: the whole domain is shattered",
                "reset(2): 3; addConcept(0): 0; addConcept(1): 1; addConcept(2): 2; addConcept(3): 3; dimension(): 2",
                "shatteredSet(2): 3; shatteredCount(2): 1; shatteredCount(1): 2; growth(2): 4; traceCount(3): 4");
        s.fresh("promises 25 to 29: three traces do not shatter",
                "addConcept(0): 0; addConcept(1): 1; addConcept(2): 2; traceCount(3): 3; dimension(): 1",
                "shatteredSet(2): NONE; shatteredCount(2): 0; growth(2): 3");
    }

    private static void largeClasses(Script s) {
        s.fresh("promises 25 to 29: 16 concepts shatter 4 points", "reset(8): 3");
        for (int number = 0; number < 16; number++) {
            s.more("addConcept(" + 16 * number + "): " + number);
        }
        s.more("dimension(): 4; shatteredSet(4): 240; shatteredCount(4): 1; shatteredCount(3): 4; shatteredSet(3): 112",
                "shatteredSet(5): NONE; shatteredCount(8): 0; growth(4): 16; growth(8): 16; growth(2): 4",
                "traceCount(255): 16; traceCount(15): 1; traceCount(192): 4; complementAll(): 16; dimension(): 4");
        s.fresh("promises 25 to 29: high traces", "reset(8): 3; addConcept(64): 0; addConcept(128): 1",
                "addConcept(192): 2; addConcept(255): 3; addConcept(0): 4; traceCount(255): 5; traceCount(192): 4",
                "dimension(): 2; shatteredSet(2): 192; shatteredCount(2): 1; growth(8): 5; growth(2): 4; growth(3): 5");
    }
}
