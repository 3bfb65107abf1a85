import java.util.ArrayList;
import java.util.Comparator;
import java.util.HashMap;
import java.util.HashSet;
import java.util.List;
import java.util.Map;
import java.util.Set;
import java.util.TreeSet;

/**
 * The document's words turned into the most literal program: sets are Sets, scores are doubles with a real NaN, and
 * the slots hold real Java arrays. It shares no idea with the class that it is compared with.
 */
final class PlainModel {
    private record Concept(Set<Integer> points, double score) { }

    private record Example(int point, boolean label) { }

    private record Saved(int m, List<Concept> concepts, List<Example> sample) { }

    private int m = 3;
    private List<Concept> concepts = new ArrayList<>();
    private List<Example> sample = new ArrayList<>();
    private final Object[] slots = new Object[4];
    private Saved saved = null;

    // Words of the document

    private static Set<Integer> set(int bits) {
        Set<Integer> points = new TreeSet<>();
        for (int point = 0; point < 31; point++) {
            if ((bits & 1 << point) != 0) {
                points.add(point);
            }
        }
        return points;
    }

    private static int bits(Set<Integer> points) {
        int bits = 0;
        for (int point : points) {
            bits += 1 << point;
        }
        return bits;
    }

    /** All sets of points, the smaller before the larger, and of one size the lower integer first. */
    private List<Set<Integer>> allSets() {
        List<Integer> all = new ArrayList<>();
        for (int bits = 0; bits < 1 << m; bits++) {
            all.add(bits);
        }
        all.sort(Comparator.comparing((Integer bits) -> set(bits).size()).thenComparing(bits -> bits));
        List<Set<Integer>> sets = new ArrayList<>();
        for (int bits : all) {
            sets.add(set(bits));
        }
        return sets;
    }

    private boolean isConcept(int number) {
        return number >= 0 && number < concepts.size();
    }

    private boolean isSet(int bits) {
        return bits >= 0 && bits < 1 << m;
    }

    private static boolean agree(Concept a, Concept b, Set<Integer> on) {
        for (int point : on) {
            if (a.points.contains(point) != b.points.contains(point)) {
                return false;
            }
        }
        return true;
    }

    private boolean teaches(Set<Integer> set, int number, List<Integer> among) {
        for (int other : among) {
            if (other != number && agree(concepts.get(number), concepts.get(other), set)) {
                return false;
            }
        }
        return true;
    }

    private List<Integer> numbers() {
        List<Integer> numbers = new ArrayList<>();
        for (int number = 0; number < concepts.size(); number++) {
            numbers.add(number);
        }
        return numbers;
    }

    private Set<Integer> minimum(int number, List<Integer> among, List<Set<Integer>> sets) {
        for (Set<Integer> set : sets) {
            if (teaches(set, number, among)) {
                return set;
            }
        }
        throw new AssertionError("the set of all points is a teaching set");
    }

    private Set<Set<Integer>> traces(Set<Integer> set) {
        Set<Set<Integer>> traces = new HashSet<>();
        for (Concept concept : concepts) {
            Set<Integer> trace = new TreeSet<>(set);
            trace.retainAll(concept.points);
            traces.add(trace);
        }
        return traces;
    }

    private boolean shattered(Set<Integer> set) {
        Set<Set<Integer>> traces = traces(set);
        for (int part = 0; part < 1 << m; part++) {
            if (set.containsAll(set(part)) && !traces.contains(set(part))) {
                return false;
            }
        }
        return true;
    }

    private List<Integer> versions() {
        List<Integer> versions = new ArrayList<>();
        for (int number = 0; number < concepts.size(); number++) {
            boolean consistent = true;
            for (Example example : sample) {
                consistent &= concepts.get(number).points.contains(example.point) == example.label;
            }
            if (consistent) {
                versions.add(number);
            }
        }
        return versions;
    }

    private List<Integer> having(List<Integer> numbers, int point, boolean label) {
        List<Integer> having = new ArrayList<>();
        for (int number : numbers) {
            if (concepts.get(number).points.contains(point) == label) {
                having.add(number);
            }
        }
        return having;
    }

    private int depth(List<Integer> numbers, Map<List<Integer>, Integer> known) {
        if (numbers.size() <= 1) {
            return 0;
        }
        Integer already = known.get(numbers);
        if (already != null) {
            return already;
        }
        int best = Integer.MAX_VALUE;
        for (int point = 0; point < m; point++) {
            best = Math.min(best, depthBy(point, numbers, known));
        }
        known.put(numbers, best);
        return best;
    }

    private int depthBy(int point, List<Integer> numbers, Map<List<Integer>, Integer> known) {
        List<Integer> with = having(numbers, point, true);
        List<Integer> without = having(numbers, point, false);
        if (with.isEmpty() || without.isEmpty()) {
            return Integer.MAX_VALUE;
        }
        return 1 + Math.max(depth(with, known), depth(without, known));
    }

    /** The layers as lists of numbers; the plan sets are put into the map. */
    private List<List<Integer>> layers(Map<Integer, Set<Integer>> planSets) {
        List<Set<Integer>> sets = allSets();
        List<List<Integer>> layers = new ArrayList<>();
        List<Integer> left = numbers();
        while (!left.isEmpty()) {
            int least = Integer.MAX_VALUE;
            for (int number : left) {
                planSets.put(number, minimum(number, left, sets));
                least = Math.min(least, planSets.get(number).size());
            }
            List<Integer> layer = new ArrayList<>();
            for (int number : left) {
                if (planSets.get(number).size() == least) {
                    layer.add(number);
                }
            }
            layers.add(layer);
            left.removeAll(layer);
        }
        return layers;
    }

    // The face

    int reset(int points) {
        if (points < 1 || points > 8) {
            return -1;
        }
        int before = m;
        m = points;
        concepts = new ArrayList<>();
        sample = new ArrayList<>();
        return before;
    }

    int pointCount() {
        return m;
    }

    int addConcept(int concept) {
        if (!isSet(concept)) {
            return -1;
        }
        if (numberOf(concept) >= 0) {
            return -5;
        }
        if (concepts.size() == 20) {
            return -4;
        }
        concepts.add(new Concept(set(concept), Double.NaN));
        return concepts.size() - 1;
    }

    int addIntervals() {
        int added = 0;
        for (int i = 0; i < m; i++) {
            for (int j = i; j < m; j++) {
                if (concepts.size() == 20) {
                    return added;
                }
                Set<Integer> interval = new TreeSet<>();
                for (int k = i; k <= j; k++) {
                    interval.add(k);
                }
                if (addConcept(bits(interval)) >= 0) {
                    added++;
                }
            }
        }
        return added;
    }

    int removeConcept(int number) {
        if (!isConcept(number)) {
            return -2;
        }
        concepts.remove(number);
        return concepts.size();
    }

    int conceptCount() {
        return concepts.size();
    }

    int concept(int number) {
        return isConcept(number) ? bits(concepts.get(number).points) : -2;
    }

    int numberOf(int concept) {
        for (int number = 0; number < concepts.size(); number++) {
            if (bits(concepts.get(number).points) == concept) {
                return number;
            }
        }
        return -6;
    }

    int complementAll() {
        List<Concept> complements = new ArrayList<>();
        for (Concept concept : concepts) {
            Set<Integer> complement = new TreeSet<>();
            for (int point = 0; point < m; point++) {
                if (!concept.points.contains(point)) {
                    complement.add(point);
                }
            }
            complements.add(new Concept(complement, concept.score));
        }
        concepts = complements;
        return concepts.size();
    }

    int restrict(int set) {
        if (set == 0 || !isSet(set)) {
            return -1;
        }
        List<Integer> kept = new ArrayList<>(set(set));
        List<Concept> restricted = new ArrayList<>();
        Set<Set<Integer>> seen = new HashSet<>();
        for (Concept concept : concepts) {
            Set<Integer> points = new TreeSet<>();
            for (int point : concept.points) {
                if (kept.contains(point)) {
                    points.add(kept.indexOf(point));
                }
            }
            if (seen.add(points)) {
                restricted.add(new Concept(points, concept.score));
            }
        }
        m = kept.size();
        concepts = restricted;
        sample = new ArrayList<>();
        return concepts.size();
    }

    int isIntersectionClosed() {
        for (Concept a : concepts) {
            for (Concept b : concepts) {
                Set<Integer> both = new TreeSet<>(a.points);
                both.retainAll(b.points);
                if (numberOf(bits(both)) < 0) {
                    return 0;
                }
            }
        }
        return 1;
    }

    int isTeachingSet(int number, int set) {
        if (!isConcept(number)) {
            return -2;
        }
        if (!isSet(set)) {
            return -1;
        }
        return teaches(set(set), number, numbers()) ? 1 : 0;
    }

    int teachingSet(int number) {
        return isConcept(number) ? bits(minimum(number, numbers(), allSets())) : -2;
    }

    int teachingSetCount(int number, int size) {
        if (!isConcept(number)) {
            return -2;
        }
        if (size < 0 || size > m) {
            return -1;
        }
        int count = 0;
        for (Set<Integer> set : allSets()) {
            if (set.size() == size && teaches(set, number, numbers())) {
                count++;
            }
        }
        return count;
    }

    private List<Integer> dimensions() {
        List<Integer> dimensions = new ArrayList<>();
        List<Set<Integer>> sets = allSets();
        for (int number : numbers()) {
            dimensions.add(minimum(number, numbers(), sets).size());
        }
        return dimensions;
    }

    int teachingDimension(int what) {
        if (what != 0 && what != 1) {
            return -1;
        }
        if (concepts.isEmpty()) {
            return -7;
        }
        List<Integer> dimensions = new ArrayList<>(dimensions());
        dimensions.sort(null);
        return what == 0 ? dimensions.get(dimensions.size() - 1) : dimensions.get(0);
    }

    int averageDimension(int part) {
        if (part != 0 && part != 1) {
            return -1;
        }
        if (concepts.isEmpty()) {
            return -7;
        }
        int sum = 0;
        for (int dimension : dimensions()) {
            sum += dimension;
        }
        int a = sum;
        int b = concepts.size();
        while (b != 0) {
            int rest = a % b;
            a = b;
            b = rest;
        }
        return (part == 0 ? sum : concepts.size()) / a;
    }

    int recursiveDimension() {
        Map<Integer, Set<Integer>> planSets = new HashMap<>();
        layers(planSets);
        int most = -7;
        for (Set<Integer> set : planSets.values()) {
            most = Math.max(most, set.size());
        }
        return most;
    }

    int layerCount() {
        return layers(new HashMap<>()).size();
    }

    int layer(int number) {
        List<List<Integer>> layers = layers(new HashMap<>());
        for (int layer = 0; layer < layers.size(); layer++) {
            if (layers.get(layer).contains(number)) {
                return layer;
            }
        }
        return -2;
    }

    int planSet(int number) {
        Map<Integer, Set<Integer>> planSets = new HashMap<>();
        layers(planSets);
        return planSets.containsKey(number) ? bits(planSets.get(number)) : -2;
    }

    int setScore(int number, int numerator, int denominator) {
        if (!isConcept(number)) {
            return -2;
        }
        double score = (double) numerator / (double) denominator;
        Concept before = concepts.set(number, new Concept(concepts.get(number).points, score));
        return score == before.score ? 1 : 0;
    }

    int compareScores(int first, int second) {
        if (!isConcept(first) || !isConcept(second)) {
            return -2;
        }
        double a = concepts.get(first).score;
        double b = concepts.get(second).score;
        return a < b ? 0 : a == b ? 1 : a > b ? 2 : 3;
    }

    int preferenceSet(int number) {
        if (!isConcept(number)) {
            return -2;
        }
        Concept taught = concepts.get(number);
        for (Set<Integer> set : allSets()) {
            boolean prefers = true;
            for (int other : numbers()) {
                if (other != number && agree(taught, concepts.get(other), set)) {
                    prefers &= concepts.get(other).score < taught.score;
                }
            }
            if (prefers) {
                return bits(set);
            }
        }
        throw new AssertionError("the set of all points is a preference teaching set");
    }

    int traceCount(int set) {
        return isSet(set) ? traces(set(set)).size() : -1;
    }

    int dimension() {
        int most = -1;
        for (int size = 0; size <= m; size++) {
            most = shatteredCount(size) > 0 ? size : most;
        }
        return most;
    }

    int shatteredSet(int size) {
        if (size < 0 || size > m) {
            return -1;
        }
        for (Set<Integer> set : allSets()) {
            if (set.size() == size && shattered(set)) {
                return bits(set);
            }
        }
        return -6;
    }

    int shatteredCount(int size) {
        if (size < 0 || size > m) {
            return -1;
        }
        int count = 0;
        for (Set<Integer> set : allSets()) {
            if (set.size() == size && shattered(set)) {
                count++;
            }
        }
        return count;
    }

    int growth(int size) {
        if (size < 0 || size > m) {
            return -1;
        }
        int most = 0;
        for (Set<Integer> set : allSets()) {
            if (set.size() == size) {
                most = Math.max(most, traces(set).size());
            }
        }
        return most;
    }

    int addExample(int point, int label) {
        if (point < 0 || point >= m) {
            return -3;
        }
        if (label != 0 && label != 1) {
            return -1;
        }
        if (sample.size() == 12) {
            return -4;
        }
        sample.add(new Example(point, label == 1));
        return sample.size();
    }

    int addExamples(int number, int set) {
        if (!isConcept(number)) {
            return -2;
        }
        if (!isSet(set)) {
            return -1;
        }
        List<Example> longer = new ArrayList<>(sample);
        for (int point : set(set)) {
            longer.add(new Example(point, concepts.get(number).points.contains(point)));
        }
        if (longer.size() > 12) {
            return -4;
        }
        sample = longer;
        return sample.size();
    }

    int clearSample() {
        int before = sample.size();
        sample = new ArrayList<>();
        return before;
    }

    int example(int index) {
        if (index < 0 || index >= sample.size()) {
            return -6;
        }
        return 2 * sample.get(index).point + (sample.get(index).label ? 1 : 0);
    }

    int versionCount() {
        return versions().size();
    }

    int version(int index) {
        return index >= 0 && index < versions().size() ? versions().get(index) : -6;
    }

    int decode() {
        List<Integer> versions = versions();
        for (List<Integer> layer : layers(new HashMap<>())) {
            for (int number : layer) {
                if (versions.contains(number)) {
                    return number;
                }
            }
        }
        return -7;
    }

    int majority(int point) {
        if (point < 0 || point >= m) {
            return -3;
        }
        if (versions().isEmpty()) {
            return -7;
        }
        int ones = having(versions(), point, true).size();
        int zeros = having(versions(), point, false).size();
        return ones > zeros ? 1 : ones < zeros ? 0 : 2;
    }

    int queryDepth() {
        return versions().isEmpty() ? -7 : depth(versions(), new HashMap<>());
    }

    int bestQuery() {
        List<Integer> versions = versions();
        if (versions.isEmpty()) {
            return -7;
        }
        if (versions.size() == 1) {
            return -6;
        }
        Map<List<Integer>, Integer> known = new HashMap<>();
        int best = 0;
        for (int point = 1; point < m; point++) {
            if (depthBy(point, versions, known) < depthBy(best, versions, known)) {
                best = point;
            }
        }
        return best;
    }

    int halvingMistakes(int number) {
        if (!isConcept(number)) {
            return -2;
        }
        List<Integer> remaining = numbers();
        int mistakes = 0;
        for (int point = 0; point < m; point++) {
            boolean predicted = having(remaining, point, true).size() > having(remaining, point, false).size();
            boolean label = concepts.get(number).points.contains(point);
            mistakes += predicted != label ? 1 : 0;
            remaining = having(remaining, point, label);
        }
        return mistakes;
    }

    int allocate(int slot, int type, int size) {
        if (slot < 0 || slot > 3 || type < 0 || type > 3 || size > 40) {
            return -1;
        }
        if (size < 0) {
            return -14;
        }
        slots[slot] = type == 0 ? new byte[size] : type == 1 ? new short[size]
                : type == 2 ? new long[size] : new double[size];
        return size;
    }

    int release(int slot) {
        if (slot < 0 || slot > 3) {
            return -1;
        }
        int held = slots[slot] == null ? 0 : 1;
        slots[slot] = null;
        return held;
    }

    int putElement(int slot, int index, long value) {
        if (slot < 0 || slot > 3) {
            return -1;
        }
        if (slots[slot] == null) {
            return -11;
        }
        try {
            if (slots[slot] instanceof byte[] bytes) {
                bytes[index] = (byte) value;
            } else if (slots[slot] instanceof short[] shorts) {
                shorts[index] = (short) value;
            } else if (slots[slot] instanceof long[] longs) {
                longs[index] = value;
            } else if (slots[slot] instanceof double[] doubles) {
                doubles[index] = (double) value;
            }
        } catch (ArrayIndexOutOfBoundsException e) {
            return -13;
        }
        return 1;
    }

    long element(int slot, int index) {
        try {
            if (slots[slot] instanceof byte[] bytes) {
                return bytes[index];
            } else if (slots[slot] instanceof short[] shorts) {
                return shorts[index];
            } else if (slots[slot] instanceof long[] longs) {
                return longs[index];
            } else if (slots[slot] instanceof double[] doubles) {
                return (long) doubles[index];
            }
        } catch (ArrayIndexOutOfBoundsException e) {
            return Long.MIN_VALUE;
        }
        return Long.MIN_VALUE;
    }

    int copyElements(int source, int sourceIndex, int target, int targetIndex, int count) {
        if (source < 0 || source > 3 || target < 0 || target > 3) {
            return -1;
        }
        if (slots[source] == null || slots[target] == null) {
            return -11;
        }
        try {
            System.arraycopy(slots[source], sourceIndex, slots[target], targetIndex, count);
        } catch (ArrayStoreException e) {
            return -12;
        } catch (IndexOutOfBoundsException e) {
            return -13;
        }
        return count;
    }

    int loadClass(int slot) {
        if (slot < 0 || slot > 3) {
            return -1;
        }
        if (slots[slot] == null) {
            return -11;
        }
        if (!(slots[slot] instanceof short[] shorts)) {
            return -12;
        }
        concepts = new ArrayList<>();
        sample = new ArrayList<>();
        for (short element : shorts) {
            addConcept(element);
        }
        return concepts.size();
    }

    int storeScores(int slot) {
        if (slot < 0 || slot > 3) {
            return -1;
        }
        if (slots[slot] == null) {
            return -11;
        }
        if (!(slots[slot] instanceof double[] doubles)) {
            return -12;
        }
        if (doubles.length < concepts.size()) {
            return -13;
        }
        for (int number = 0; number < concepts.size(); number++) {
            doubles[number] = concepts.get(number).score;
        }
        return concepts.size();
    }

    int snapshot() {
        saved = new Saved(m, List.copyOf(concepts), List.copyOf(sample));
        return concepts.size();
    }

    int restore() {
        if (saved == null) {
            return -6;
        }
        m = saved.m;
        concepts = new ArrayList<>(saved.concepts);
        sample = new ArrayList<>(saved.sample);
        return concepts.size();
    }
}
