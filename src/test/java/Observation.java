import java.util.LinkedHashMap;
import java.util.List;
import java.util.Map;
import java.util.Set;

/**
 * What callers can see of an object after a run of calls, part by part. Some looks change the object (a restore, an
 * array put beside another one), so that each look is made at an object that has run the same calls anew.
 */
final class Observation {
    private static final String POINTS = "the number of points";
    private static final String CONCEPTS = "the concepts";
    private static final String SCORES = "the scores";
    private static final String SAMPLE = "the sample";
    private static final String SNAPSHOT = "the snapshot";
    private static final String LEARNED = "what follows from the class and the sample";

    /** What the document lets each method change; a method that is not here changes nothing. */
    private static final Map<String, Set<String>> CHANGES = Map.ofEntries(
            Map.entry("reset", Set.of(POINTS, CONCEPTS, SCORES, SAMPLE)),
            Map.entry("addConcept", Set.of(CONCEPTS, SCORES)),
            Map.entry("addIntervals", Set.of(CONCEPTS, SCORES)),
            Map.entry("removeConcept", Set.of(CONCEPTS, SCORES)),
            Map.entry("complementAll", Set.of(CONCEPTS)),
            Map.entry("restrict", Set.of(POINTS, CONCEPTS, SCORES, SAMPLE)),
            Map.entry("setScore", Set.of(SCORES)),
            Map.entry("addExample", Set.of(SAMPLE)),
            Map.entry("addExamples", Set.of(SAMPLE)),
            Map.entry("clearSample", Set.of(SAMPLE)),
            Map.entry("loadClass", Set.of(CONCEPTS, SCORES, SAMPLE)),
            Map.entry("snapshot", Set.of(SNAPSHOT)),
            Map.entry("restore", Set.of(POINTS, CONCEPTS, SCORES, SAMPLE)));

    /** The methods that change one slot, with the place of its number among the arguments. */
    private static final Map<String, Integer> SLOT_CHANGES = Map.of("allocate", 0, "release", 0, "putElement", 0,
            "copyElements", 2, "storeScores", 0);

    private final Map<String, String> parts = new LinkedHashMap<>();

    Observation(List<Call> run) {
        TeachingSets seen = after(run);
        lookAtState(seen);
        parts.put(LEARNED, learned(seen));
        parts.put(SCORES, parts.get(SCORES) + storedScores(after(run)));
        for (int slot = 0; slot < 4; slot++) {
            parts.put("slot " + slot, array(after(run), slot));
        }
        parts.put(SNAPSHOT, restored(after(run)));
    }

    private Observation(TeachingSets seen) {
        lookAtState(seen);
        parts.put(SCORES, parts.get(SCORES) + storedScores(seen));
    }

    private static String restored(TeachingSets object) {
        int answer = object.restore();
        // Without a snapshot there is nothing to see but the present state, which may change.
        return answer == TeachingSets.NONE ? "none" : answer + ": " + new Observation(object).parts;
    }

    private static TeachingSets after(List<Call> run) {
        TeachingSets object = new TeachingSets();
        for (Call call : run) {
            call.answerOf(object);
        }
        return object;
    }

    /** The part that is another one after the call though the document doesn't let the call change it, or null. */
    static String wronglyChanged(Observation before, Call call, Observation after) {
        Set<String> free = CHANGES.getOrDefault(call.name, Set.of());
        Integer slotArgument = SLOT_CHANGES.get(call.name);
        String freeSlot = slotArgument == null ? "" : "slot " + call.arguments[slotArgument];
        boolean reads = free.isEmpty() && slotArgument == null;
        for (String part : before.parts.keySet()) {
            boolean mayChange = !call.refused && !reads
                    && (free.contains(part) || part.equals(freeSlot) || part.equals(LEARNED) && !free.isEmpty());
            if (!mayChange && !before.parts.get(part).equals(after.parts.get(part))) {
                return part + " (before: " + before.parts.get(part) + ", after: " + after.parts.get(part) + ")";
            }
        }
        return null;
    }

    private void lookAtState(TeachingSets seen) {
        parts.put(POINTS, Integer.toString(seen.pointCount()));
        StringBuilder concepts = new StringBuilder();
        StringBuilder scores = new StringBuilder();
        int count = seen.conceptCount();
        for (int number = 0; number < count; number++) {
            concepts.append(seen.concept(number)).append(' ');
            // Beside the one after it, each is compared with the first, which places it among all of them.
            scores.append(seen.compareScores(number, number)).append(seen.compareScores(number, (number + 1) % count))
                    .append(seen.compareScores(0, number)).append(' ');
        }
        parts.put(CONCEPTS, concepts.toString());
        parts.put(SCORES, scores.toString());
        StringBuilder sample = new StringBuilder();
        for (int index = 0; index <= 12; index++) {
            sample.append(seen.example(index)).append(' ');
        }
        parts.put(SAMPLE, sample.toString());
    }

    private static String storedScores(TeachingSets object) {
        StringBuilder stored = new StringBuilder();
        object.allocate(0, 3, 20);
        object.storeScores(0);
        for (int number = 0; number < object.conceptCount(); number++) {
            stored.append(object.element(0, number)).append(' ');
        }
        return stored.toString();
    }

    private static String learned(TeachingSets seen) {
        StringBuilder told = new StringBuilder();
        for (int number = 0; number < seen.conceptCount(); number++) {
            told.append(seen.teachingSet(number)).append(' ').append(seen.layer(number)).append(' ')
                    .append(seen.planSet(number)).append(' ').append(seen.halvingMistakes(number)).append(", ");
        }
        return told.append(seen.layerCount()).append(' ').append(seen.dimension()).append(' ')
                .append(seen.versionCount()).append(' ').append(seen.decode()).append(' ').append(seen.queryDepth())
                .append(' ').append(seen.bestQuery()).toString();
    }

    private static String array(TeachingSets object, int slot) {
        int size = -1;
        while (size < 41 && object.copyElements(slot, size + 1, slot, size + 1, 0) == 0) {
            size++;
        }
        StringBuilder told = new StringBuilder("size ").append(size).append(", elements");
        for (int index = 0; index <= size; index++) {
            told.append(' ').append(object.element(slot, index));
        }
        int beside = (slot + 1) % 4;
        for (int type = 0; type < 4; type++) {
            object.allocate(beside, type, 0);
            if (object.copyElements(slot, 0, beside, 0, 0) == 0) {
                told.append(", type ").append(type);
            }
        }
        return told.toString();
    }
}
