import java.io.IOException;
import java.nio.file.Files;
import java.nio.file.Path;
import java.util.ArrayList;
import java.util.LinkedHashMap;
import java.util.List;
import java.util.Map;
import java.util.regex.Matcher;
import java.util.regex.Pattern;

/**
 * Tests of single sentences. Each test quotes a sentence of the document, or a clause of one that tells what a method
 * returns; a quote that does not stand there is a fault, and so is a sentence that no test quotes. After each call a
 * test also looks whether anything changed that the document doesn't let the call change, and the plain model is held
 * to the same answers.
 */
final class Sentences {
    private static final Path DOCUMENT = Path.of("../shared/DOC.md");
    private static final int TERMS = 0;
    /** A look needs some 400 calls more, and an object is used for 512. */
    private static final int LONGEST_RUN = 110;
    private static final int MOST_TOLD = 40;

    /** Each sentence under its promise's number, and how often it is quoted. */
    private final Map<Integer, Map<String, Integer>> quotes = new LinkedHashMap<>();
    private int tests = 0;
    private int calls = 0;
    private int wrong = 0;

    Sentences() throws IOException {
        String text = Files.readString(DOCUMENT);
        Matcher section = Pattern.compile("(?ms)^## (?:Promise (\\d+): .*?|Terms)$(.*?)(?=^## )").matcher(text);
        while (section.find()) {
            int promise = section.group(1) == null ? TERMS : Integer.parseInt(section.group(1));
            // The examples and the constants are no sentences; ClassTest and FaceTest look at them.
            String body = section.group(2).replaceFirst("(?s)Examples: each one begins.*", "");
            quotes.put(promise, new LinkedHashMap<>());
            for (String paragraph : body.strip().split("\n\\s*\n|\n(?=- )")) {
                read(promise, paragraph.replaceAll("\\s+", " ").strip());
            }
        }
        holds(quotes.size() == 50, "the document has " + quotes.size() + " sections of terms and promises");
    }

    private void read(int promise, String paragraph) {
        String plain = paragraph.replaceFirst("^`[^`]*`: ", "").replaceFirst("^- `(\\w+)`: ", "$1: ");
        // The paragraph that begins a section may begin with "Returns" too, but only the last one lists answers.
        boolean answers = plain.equals(paragraph) && promise != TERMS;
        for (String sentence : answers ? plain.split("; ") : plain.split("(?<=\\.|\\.\\)) (?=[A-Z(])")) {
            boolean heading = promise == TERMS && sentence.matches("[A-Z][a-z]+( [a-z]+)?\\.");
            if (!heading) {
                quotes.get(promise).put(sentence.replaceFirst("\\.$", ""), 0);
            }
        }
    }

    /** A test of a promise's sentence, with a word on the boundary that it looks at. */
    void promise(int number, String sentence, String boundary, String... lines) {
        quote(number, sentence);
        run("promise " + number + ": \"" + sentence + "\", " + boundary, lines);
    }

    /** A test of a sentence of the terms, on which the promise leans. */
    void terms(int number, String sentence, String boundary, String... lines) {
        quote(TERMS, sentence);
        run("promise " + number + ", terms: \"" + sentence + "\", " + boundary, lines);
    }

    /** A test of what a promise's calls leave as it was, where they are refused or only read. */
    void nothingChanges(int number, String state, String... lines) {
        run("promise " + number + ": nothing changes in " + state, lines);
    }

    private void quote(int promise, String sentence) {
        boolean there = quotes.containsKey(promise) && quotes.get(promise).containsKey(sentence);
        holds(there, (promise == TERMS ? "the terms do" : "promise " + promise + " does") + " not say: " + sentence);
        if (there) {
            quotes.get(promise).merge(sentence, 1, Integer::sum);
        }
    }

    private void run(String name, String... lines) {
        tests++;
        TeachingSets object = new TeachingSets();
        PlainModel model = new PlainModel();
        List<Call> run = new ArrayList<>();
        Observation before = new Observation(run);
        for (String written : String.join(";", lines).split(";")) {
            Call call = new Call(written);
            calls++;
            String answer = call.answerOf(object);
            String modelAnswer = call.answerOf(model);
            String due = call.dueIsGiven ? Long.toString(call.due) : modelAnswer;
            compare(name, call, answer, "", due);
            compare(name, call, modelAnswer, " by the plain model", due);
            run.add(call);
            Observation after = new Observation(run);
            String changed = Observation.wronglyChanged(before, call, after);
            holds(changed == null, name + ": " + call.text + " changed " + changed);
            before = after;
        }
        holds(run.size() <= LONGEST_RUN, name + " is too long for the looks at it");
    }

    private void compare(String name, Call call, String got, String by, String due) {
        holds(got.equals(due), name + ": " + call.text + " is answered " + got + by + ", due is " + due);
    }

    private void holds(boolean fact, String otherwise) {
        if (!fact) {
            wrong++;
            if (wrong <= MOST_TOLD) {
                System.out.println("BoundaryTest, " + otherwise);
            }
        }
    }

    void end() {
        quotes.forEach((promise, sentences) -> sentences.forEach((sentence, times) ->
                holds(times > 0, "no test for " + (promise == TERMS ? "the terms: " : "promise " + promise + ": ")
                        + sentence)));
        System.out.println("BoundaryTest: " + tests + " tests, " + calls + " calls, " + wrong + " wrong");
        if (wrong != 0 || tests == 0) {
            System.exit(1);
        }
    }
}
