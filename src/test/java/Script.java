/** Runs calls that are written as in the document, "reset(4): 3; addIntervals(): 10", and compares the answers. */
final class Script {
    private final String test;
    private int calls = 0;
    private int wrong = 0;
    private String run = "";
    private TeachingSets object = new TeachingSets();

    Script(String test) {
        this.test = test;
    }

    /** Begins a run on a new object. */
    void fresh(String name, String... lines) {
        run = name;
        object = new TeachingSets();
        more(lines);
    }

    /** Goes on with the object of the run. */
    void more(String... lines) {
        for (String line : lines) {
            for (String written : line.split(";")) {
                check(new Call(written));
            }
        }
    }

    /** A fact that is no answer of a call. */
    void holds(boolean fact, String otherwise) {
        if (!fact) {
            wrong++;
            System.out.println(test + ": " + otherwise);
        }
    }

    void end() {
        System.out.println(test + ": " + calls + " calls, " + wrong + " wrong");
        if (wrong != 0 || calls == 0) {
            System.exit(1);
        }
    }

    private void check(Call call) {
        calls++;
        String got = call.answerOf(object);
        if (!call.dueIsGiven || !got.equals(Long.toString(call.due))) {
            wrong++;
            System.out.println(test + ", " + run + ": " + call.text + " answered " + got + ", due is " + call.due);
        }
    }
}
