import java.io.IOException;
import java.lang.reflect.Field;
import java.nio.file.Files;
import java.nio.file.Path;
import java.util.LinkedHashMap;
import java.util.Map;
import java.util.regex.Matcher;
import java.util.regex.Pattern;

/**
 * What the document says outside the terms and the promises, read off the document itself: its first section, its
 * examples and its constants. Words that no test here knows are a fault, and so are known ones that are gone.
 */
public final class DocumentTest {
    private static final Path DOCUMENT = Path.of("../shared/DOC.md");
    private static final int MOST_CALLS = 512;

    private final String text;
    private final Script script = new Script("DocumentTest");

    private DocumentTest() throws IOException {
        text = Files.readString(DOCUMENT);
    }

    public static void main(String[] args) throws IOException, ReflectiveOperationException {
        DocumentTest test = new DocumentTest();
        test.whatItIs();
        test.examples();
        test.constantValues();
        test.constantTexts();
        test.script.end();
    }

    private static String oneLine(String words) {
        return words.replaceAll("\\s+", " ").strip();
    }

    private String between(String start, String end) {
        int from = text.indexOf(start);
        int to = text.indexOf(end, Math.max(from, 0));
        script.holds(from >= 0 && to >= 0, "the document has no part from " + start + " to " + end);
        return from >= 0 && to >= 0 ? text.substring(from + start.length(), to) : "";
    }

    private void whatItIs() {
        String due = "A calculator for teaching sets of finite concept classes: minimum teaching sets, recursive teaching"
                + " plans, teaching with preferences, shattered sets and the Vapnik-Chervonenkis dimension, optimal"
                + " membership queries, and learners for labelled samples. An object is used for at most 512 calls after"
                + " it has been made; what later calls answer is free.";
        String there = oneLine(between("## What it is\n", "## The public face"));
        script.holds(there.equals(due), "no test for what it is: " + there);
        script.fresh("what it is: all that the calculator is for", "addConcept(0): 0; addConcept(1): 1; addConcept(3): 2",
                "addConcept(7): 3; teachingSet(1): 3; layer(1): 1; planSet(1): 2; setScore(1, 1, 1): 0",
                "setScore(0, 0, 1): 0; preferenceSet(1): 2; shatteredSet(1): 1; dimension(): 1; bestQuery(): 1",
                "queryDepth(): 2; addExample(1, 1): 1; decode(): 3; majority(2): 2; halvingMistakes(0): 1");
        lastCalls();
    }

    /** The dearest and the most changing calls, up to the last one that an object must answer. */
    private void lastCalls() {
        script.fresh("what it is: an object's 512 calls", "reset(8): 3; addIntervals(): 20; snapshot(): 20");
        int made = 3;
        while (made + 7 <= MOST_CALLS - 2) {
            script.more("removeConcept(19): 19; layerCount(): 6; addConcept(124): 19; layerCount(): 7; queryDepth(): 5",
                    "restore(): 20; recursiveDimension(): 2");
            made += 7;
        }
        for (; made < MOST_CALLS - 2; made++) {
            script.more("conceptCount(): 20");
        }
        script.more("layer(11): 6; addConcept(0): FULL");
    }

    private void examples() {
        String part = between("Examples: each one begins with a new object; after each call stands its result.",
                "The constants:");
        int number = 0;
        for (String example : part.split("(?m)^- ")) {
            String calls = oneLine(example.replaceAll("(?m)^```.*$", " "));
            if (!calls.isEmpty()) {
                number++;
                script.holds(calls.split(";").length >= 9, "an example was not read: " + calls);
                script.fresh("the document's example " + number, calls);
            }
        }
        script.holds(number == 3, "the document has " + number + " examples");
    }

    private void constantValues() throws ReflectiveOperationException {
        String face = between("```java", "```\n");
        Matcher line = Pattern.compile("public static final (int|long) (\\w+) = (.*);").matcher(face);
        int found = 0;
        while (line.find()) {
            found++;
            Field constant = TeachingSets.class.getField(line.group(2));
            script.holds(constant.getType().getName().equals(line.group(1)), constant + " is no " + line.group(1));
            checkValue(constant, line.group(3));
        }
        script.holds(found == 12, "the document's face has " + found + " constants");
    }

    private void checkValue(Field constant, String written) throws ReflectiveOperationException {
        long due = written.equals("Long.MIN_VALUE") ? Long.MIN_VALUE : Long.parseLong(written);
        script.holds(constant.getLong(null) == due, constant + " is " + constant.getLong(null) + ", due is " + written);
    }

    /** Each constant's words, with calls that are answered by it for just this reason. */
    private void constantTexts() throws ReflectiveOperationException {
        Map<String, String> texts = new LinkedHashMap<>();
        Matcher line = Pattern.compile("`([A-Z_]+) = (-?\\d+|Long\\.MIN_VALUE)`: ([^\n]*)").matcher(text);
        while (line.find()) {
            texts.put(line.group(1), line.group(3).strip());
            checkValue(TeachingSets.class.getField(line.group(1)), line.group(2));
        }
        script.holds(texts.size() == 12, "the document tells " + texts.keySet());

        means(texts, "BAD_ARGUMENT", "An argument is out of range, and no more specific error code applies.",
                "reset(9): BAD_ARGUMENT; addConcept(8): BAD_ARGUMENT; restrict(8): BAD_ARGUMENT",
                "addExample(0, 2): BAD_ARGUMENT; release(4): BAD_ARGUMENT; growth(4): BAD_ARGUMENT",
                // A more specific code applies here.
                "addExample(3, 2): NO_SUCH_POINT; addExamples(0, 8): NO_SUCH_CONCEPT; allocate(0, 0, -1): NEGATIVE_SIZE");
        means(texts, "NO_SUCH_CONCEPT", "There is no such concept in the class.",
                "concept(0): NO_SUCH_CONCEPT; addConcept(1): 0; concept(0): 1; teachingSet(1): NO_SUCH_CONCEPT",
                "layer(-1): NO_SUCH_CONCEPT; setScore(1, 1, 1): NO_SUCH_CONCEPT");
        means(texts, "NO_SUCH_POINT", "There is no such point.",
                "addExample(3, 0): NO_SUCH_POINT; addExample(-1, 0): NO_SUCH_POINT; majority(3): NO_SUCH_POINT",
                "reset(4): 3; addExample(3, 0): 1; majority(3): EMPTY");
        means(texts, "FULL", "There is no room.", "reset(8): 3; addIntervals(): 20; addConcept(0): FULL",
                "addExamples(0, 255): 8; addExamples(0, 31): FULL; addExamples(0, 15): 12; addExample(0, 1): FULL",
                "removeConcept(0): 19; addConcept(0): 19; clearSample(): 12; addExample(0, 1): 1");
        means(texts, "DUPLICATE", "The concept is already in the class.",
                "addConcept(5): 0; addConcept(5): DUPLICATE; removeConcept(0): 0; addConcept(5): 0");
        means(texts, "NONE", "There is no such element, or no result.",
                "numberOf(5): NONE; example(0): NONE; version(0): NONE; restore(): NONE; addConcept(5): 0",
                "shatteredSet(1): NONE; bestQuery(): NONE");
        means(texts, "EMPTY", "The class or the version space is empty.",
                "teachingDimension(0): EMPTY; averageDimension(1): EMPTY; recursiveDimension(): EMPTY; decode(): EMPTY",
                "addConcept(1): 0; decode(): 0; addExample(0, 0): 1; decode(): EMPTY; majority(0): EMPTY",
                "queryDepth(): EMPTY; bestQuery(): EMPTY; recursiveDimension(): 0");
        means(texts, "EMPTY_SLOT", "The array slot is empty.",
                "putElement(0, 0, 1): EMPTY_SLOT; loadClass(3): EMPTY_SLOT; storeScores(1): EMPTY_SLOT",
                "copyElements(0, 0, 2, 0, 0): EMPTY_SLOT; allocate(0, 1, 1): 1; putElement(0, 0, 1): 1");
        means(texts, "WRONG_TYPE", "The array has another element type than required.",
                "allocate(0, 2, 20): 20; allocate(1, 3, 20): 20; allocate(2, 1, 20): 20; loadClass(0): WRONG_TYPE",
                "storeScores(0): WRONG_TYPE; copyElements(0, 0, 1, 0, 1): WRONG_TYPE; loadClass(2): 1; storeScores(1): 1");
        means(texts, "INDEX_OUT_OF_RANGE", "An array index is out of range.",
                "allocate(0, 3, 1): 1; putElement(0, 1, 1): INDEX_OUT_OF_RANGE; putElement(0, -1, 1): INDEX_OUT_OF_RANGE",
                "copyElements(0, 0, 0, 1, 1): INDEX_OUT_OF_RANGE; addIntervals(): 6; storeScores(0): INDEX_OUT_OF_RANGE");
        means(texts, "NEGATIVE_SIZE", "An array size is negative.",
                "allocate(0, 0, -1): NEGATIVE_SIZE; allocate(3, 3, MIN_INT): NEGATIVE_SIZE; allocate(0, 0, 0): 0");
        means(texts, "NO_VALUE", "Returned by methods of type long if an argument is invalid.",
                "element(0, 0): NO_VALUE; element(4, 0): NO_VALUE; element(-1, 0): NO_VALUE; allocate(0, 2, 1): 1",
                "element(0, 1): NO_VALUE; element(0, -1): NO_VALUE; element(0, 0): 0");
    }

    private void means(Map<String, String> texts, String constant, String due, String... lines) {
        script.holds(due.equals(texts.get(constant)), "no test for " + constant + ": " + texts.get(constant));
        script.fresh(constant + ": " + due, lines);
    }
}
