import java.util.Arrays;

/**
 * A calculator for teaching sets of finite concept classes.
 *
 * Sets of points and sets of concept numbers are both held as the bits of an int. Every row is made in a
 * constructor and used again, so that no call makes an object.
 */
public final class TeachingSets {
    public static final int BAD_ARGUMENT = -1;
    public static final int NO_SUCH_CONCEPT = -2;
    public static final int NO_SUCH_POINT = -3;
    public static final int FULL = -4;
    public static final int DUPLICATE = -5;
    public static final int NONE = -6;
    public static final int EMPTY = -7;
    public static final int EMPTY_SLOT = -11;
    public static final int WRONG_TYPE = -12;
    public static final int INDEX_OUT_OF_RANGE = -13;
    public static final int NEGATIVE_SIZE = -14;
    public static final long NO_VALUE = Long.MIN_VALUE;

    private static final int MOST_POINTS = 8;
    private static final int MOST_SETS = 256;
    private static final int MOST_CONCEPTS = 20;
    private static final int MOST_EXAMPLES = 12;
    private static final int MOST_SLOTS = 4;
    private static final int MOST_ELEMENTS = 40;
    private static final int FIRST_POINTS = 3;

    private static final int NO_TYPE = -1;
    private static final int BYTES = 0;
    private static final int SHORTS = 1;
    private static final int LONGS = 2;
    private static final int DOUBLES = 3;

    private final Concepts concepts;
    private final Sample sample;
    private final Concepts savedConcepts;
    private final Sample savedSample;
    private boolean saved;
    private final Search search;
    private final Plan plan;
    private final Traces traces;
    private final Queries queries;
    private final Slot[] slots;

    public TeachingSets() {
        concepts = new Concepts();
        sample = new Sample();
        savedConcepts = new Concepts();
        savedSample = new Sample();
        saved = false;
        search = new Search(concepts);
        plan = new Plan(concepts, search);
        traces = new Traces(concepts);
        queries = new Queries(concepts);
        slots = new Slot[MOST_SLOTS];
        for (int slot = 0; slot < MOST_SLOTS; slot++) {
            slots[slot] = new Slot();
        }
    }

    // The class

    public int reset(int points) {
        if (points < 1 || points > MOST_POINTS) {
            return BAD_ARGUMENT;
        }
        int previous = concepts.points;
        concepts.begin(points);
        sample.forget();
        return previous;
    }

    public int pointCount() {
        return concepts.points;
    }

    public int addConcept(int concept) {
        if (!concepts.isSet(concept)) {
            return BAD_ARGUMENT;
        }
        if (concepts.find(concept) != NONE) {
            return DUPLICATE;
        }
        if (!concepts.addIfNew(concept)) {
            return FULL;
        }
        return concepts.count - 1;
    }

    public int addIntervals() {
        int before = concepts.count;
        for (int first = 0; first < concepts.points; first++) {
            for (int last = first; last < concepts.points; last++) {
                concepts.addIfNew((2 << last) - (1 << first));
            }
        }
        return concepts.count - before;
    }

    public int removeConcept(int number) {
        if (!concepts.has(number)) {
            return NO_SUCH_CONCEPT;
        }
        concepts.drop(number);
        return concepts.count;
    }

    public int conceptCount() {
        return concepts.count;
    }

    public int concept(int number) {
        return concepts.has(number) ? concepts.sets[number] : NO_SUCH_CONCEPT;
    }

    public int numberOf(int concept) {
        return concepts.find(concept);
    }

    public int complementAll() {
        concepts.flip();
        return concepts.count;
    }

    public int restrict(int set) {
        if (set == 0 || !concepts.isSet(set)) {
            return BAD_ARGUMENT;
        }
        concepts.narrow(set);
        sample.forget();
        return concepts.count;
    }

    public int isIntersectionClosed() {
        for (int first = 0; first < concepts.count; first++) {
            for (int second = 0; second < first; second++) {
                if (concepts.find(concepts.sets[first] & concepts.sets[second]) == NONE) {
                    return 0;
                }
            }
        }
        return 1;
    }

    // Teaching sets

    public int isTeachingSet(int number, int set) {
        if (!concepts.has(number)) {
            return NO_SUCH_CONCEPT;
        }
        if (!concepts.isSet(set)) {
            return BAD_ARGUMENT;
        }
        return search.beats(number, concepts.others(number), set) ? 1 : 0;
    }

    public int teachingSet(int number) {
        if (!concepts.has(number)) {
            return NO_SUCH_CONCEPT;
        }
        return search.smallest(number, concepts.others(number));
    }

    public int teachingSetCount(int number, int size) {
        if (!concepts.has(number)) {
            return NO_SUCH_CONCEPT;
        }
        if (!concepts.isSize(size)) {
            return BAD_ARGUMENT;
        }
        return search.countOfSize(number, concepts.others(number), size);
    }

    public int teachingDimension(int what) {
        if (what < 0 || what > 1) {
            return BAD_ARGUMENT;
        }
        if (concepts.count == 0) {
            return EMPTY;
        }
        int most = 0;
        int least = MOST_POINTS;
        for (int number = 0; number < concepts.count; number++) {
            int size = search.smallestSize(number);
            most = Math.max(most, size);
            least = Math.min(least, size);
        }
        return what == 0 ? most : least;
    }

    public int averageDimension(int part) {
        if (part < 0 || part > 1) {
            return BAD_ARGUMENT;
        }
        if (concepts.count == 0) {
            return EMPTY;
        }
        int sum = 0;
        for (int number = 0; number < concepts.count; number++) {
            sum += search.smallestSize(number);
        }
        return reducedPart(sum, concepts.count, part);
    }

    private static int reducedPart(int numerator, int denominator, int part) {
        int whole = part == 0 ? numerator : denominator;
        for (int divisor = denominator; divisor > 1; divisor--) {
            if (numerator % divisor == 0 && denominator % divisor == 0) {
                return whole / divisor;
            }
        }
        return whole;
    }

    // The recursive plan

    public int recursiveDimension() {
        if (concepts.count == 0) {
            return EMPTY;
        }
        plan.renew();
        return plan.largest;
    }

    public int layerCount() {
        plan.renew();
        return plan.height;
    }

    public int layer(int number) {
        if (!concepts.has(number)) {
            return NO_SUCH_CONCEPT;
        }
        plan.renew();
        return plan.layers[number];
    }

    public int planSet(int number) {
        if (!concepts.has(number)) {
            return NO_SUCH_CONCEPT;
        }
        plan.renew();
        return plan.sets[number];
    }

    // Preferences

    public int setScore(int number, int numerator, int denominator) {
        if (!concepts.has(number)) {
            return NO_SUCH_CONCEPT;
        }
        // 0 by 0 is the only quotient of two ints that is NaN, and no operation here may answer NaN.
        if (numerator == 0 && denominator == 0) {
            concepts.unrate(number);
            return 0;
        }
        return concepts.rate(number, (double) numerator / (double) denominator) ? 1 : 0;
    }

    public int compareScores(int first, int second) {
        if (!concepts.has(first) || !concepts.has(second)) {
            return NO_SUCH_CONCEPT;
        }
        if (!concepts.rated[first] || !concepts.rated[second]) {
            return 3;
        }
        if (concepts.isLess(first, second)) {
            return 0;
        }
        return concepts.isLess(second, first) ? 2 : 1;
    }

    public int preferenceSet(int number) {
        if (!concepts.has(number)) {
            return NO_SUCH_CONCEPT;
        }
        int rivals = concepts.others(number);
        for (int other = 0; other < concepts.count; other++) {
            if (concepts.isLess(other, number)) {
                rivals &= ~(1 << other);
            }
        }
        return search.smallest(number, rivals);
    }

    // Shattering

    public int traceCount(int set) {
        return concepts.isSet(set) ? traces.countOn(set) : BAD_ARGUMENT;
    }

    public int dimension() {
        int largest = -1;
        for (int set = 0; set <= concepts.allPoints(); set++) {
            int size = Integer.bitCount(set);
            if (size > largest && traces.shatter(set)) {
                largest = size;
            }
        }
        return largest;
    }

    public int shatteredSet(int size) {
        if (!concepts.isSize(size)) {
            return BAD_ARGUMENT;
        }
        for (int set = 0; set <= concepts.allPoints(); set++) {
            if (Integer.bitCount(set) == size && traces.shatter(set)) {
                return set;
            }
        }
        return NONE;
    }

    public int shatteredCount(int size) {
        if (!concepts.isSize(size)) {
            return BAD_ARGUMENT;
        }
        int shattered = 0;
        for (int set = 0; set <= concepts.allPoints(); set++) {
            if (Integer.bitCount(set) == size && traces.shatter(set)) {
                shattered++;
            }
        }
        return shattered;
    }

    public int growth(int size) {
        if (!concepts.isSize(size)) {
            return BAD_ARGUMENT;
        }
        int most = 0;
        for (int set = 0; set <= concepts.allPoints(); set++) {
            if (Integer.bitCount(set) == size) {
                most = Math.max(most, traces.countOn(set));
            }
        }
        return most;
    }

    // The sample and its learners

    public int addExample(int point, int label) {
        if (!concepts.isPoint(point)) {
            return NO_SUCH_POINT;
        }
        if (label < 0 || label > 1) {
            return BAD_ARGUMENT;
        }
        if (!sample.hasRoomFor(1)) {
            return FULL;
        }
        sample.append(point, label);
        return sample.count;
    }

    public int addExamples(int number, int set) {
        if (!concepts.has(number)) {
            return NO_SUCH_CONCEPT;
        }
        if (!concepts.isSet(set)) {
            return BAD_ARGUMENT;
        }
        if (!sample.hasRoomFor(Integer.bitCount(set))) {
            return FULL;
        }
        for (int point = 0; point < concepts.points; point++) {
            if (hasBit(set, point)) {
                sample.append(point, concepts.labelOf(number, point));
            }
        }
        return sample.count;
    }

    public int clearSample() {
        int before = sample.count;
        sample.forget();
        return before;
    }

    public int example(int index) {
        return index >= 0 && index < sample.count ? sample.codes[index] : NONE;
    }

    public int versionCount() {
        return Integer.bitCount(versions());
    }

    public int version(int index) {
        int versions = versions();
        int passed = 0;
        for (int number = 0; number < concepts.count; number++) {
            if (hasBit(versions, number)) {
                if (passed == index) {
                    return number;
                }
                passed++;
            }
        }
        return NONE;
    }

    public int decode() {
        int versions = versions();
        if (versions == 0) {
            return EMPTY;
        }
        plan.renew();
        int lowest = MOST_CONCEPTS;
        int decoded = EMPTY;
        for (int number = 0; number < concepts.count; number++) {
            if (hasBit(versions, number) && plan.layers[number] < lowest) {
                lowest = plan.layers[number];
                decoded = number;
            }
        }
        return decoded;
    }

    public int majority(int point) {
        if (!concepts.isPoint(point)) {
            return NO_SUCH_POINT;
        }
        int versions = versions();
        if (versions == 0) {
            return EMPTY;
        }
        int lead = concepts.leadOfOnes(versions, point);
        if (lead == 0) {
            return 2;
        }
        return lead > 0 ? 1 : 0;
    }

    public int queryDepth() {
        int versions = versions();
        return versions == 0 ? EMPTY : queries.depth(versions);
    }

    public int bestQuery() {
        int versions = versions();
        return versions == 0 ? EMPTY : queries.best(versions);
    }

    public int halvingMistakes(int number) {
        if (!concepts.has(number)) {
            return NO_SUCH_CONCEPT;
        }
        int remaining = concepts.allNumbers();
        int mistakes = 0;
        for (int point = 0; point < concepts.points; point++) {
            int predicted = concepts.leadOfOnes(remaining, point) > 0 ? 1 : 0;
            int label = concepts.labelOf(number, point);
            if (predicted != label) {
                mistakes++;
            }
            remaining &= concepts.labelling(point, label);
        }
        return mistakes;
    }

    private int versions() {
        int versions = concepts.allNumbers();
        for (int index = 0; index < sample.count; index++) {
            versions &= concepts.labelling(sample.pointAt(index), sample.labelAt(index));
        }
        return versions;
    }

    // The array slots

    public int allocate(int slot, int type, int size) {
        if (!isSlot(slot) || type < BYTES || type > DOUBLES || size > MOST_ELEMENTS) {
            return BAD_ARGUMENT;
        }
        if (size < 0) {
            return NEGATIVE_SIZE;
        }
        slots[slot].hold(type, size);
        return size;
    }

    public int release(int slot) {
        if (!isSlot(slot)) {
            return BAD_ARGUMENT;
        }
        boolean held = !slots[slot].isEmpty();
        slots[slot].hold(NO_TYPE, 0);
        return held ? 1 : 0;
    }

    public int putElement(int slot, int index, long value) {
        if (!isSlot(slot)) {
            return BAD_ARGUMENT;
        }
        if (slots[slot].isEmpty()) {
            return EMPTY_SLOT;
        }
        if (!slots[slot].hasIndex(index)) {
            return INDEX_OUT_OF_RANGE;
        }
        slots[slot].put(index, value);
        return 1;
    }

    public long element(int slot, int index) {
        if (!isSlot(slot) || !slots[slot].hasIndex(index)) {
            return NO_VALUE;
        }
        return slots[slot].get(index);
    }

    public int copyElements(int source, int sourceIndex, int target, int targetIndex, int count) {
        if (!isSlot(source) || !isSlot(target)) {
            return BAD_ARGUMENT;
        }
        Slot from = slots[source];
        Slot to = slots[target];
        if (from.isEmpty() || to.isEmpty()) {
            return EMPTY_SLOT;
        }
        if (from.type != to.type) {
            return WRONG_TYPE;
        }
        if (!from.hasStretch(sourceIndex, count) || !to.hasStretch(targetIndex, count)) {
            return INDEX_OUT_OF_RANGE;
        }
        to.take(targetIndex, from, sourceIndex, count);
        return count;
    }

    public int loadClass(int slot) {
        if (!isSlot(slot)) {
            return BAD_ARGUMENT;
        }
        Slot array = slots[slot];
        if (array.isEmpty()) {
            return EMPTY_SLOT;
        }
        if (array.type != SHORTS) {
            return WRONG_TYPE;
        }
        concepts.begin(concepts.points);
        sample.forget();
        for (int index = 0; index < array.size; index++) {
            int set = (int) array.get(index);
            if (concepts.isSet(set)) {
                concepts.addIfNew(set);
            }
        }
        return concepts.count;
    }

    public int storeScores(int slot) {
        if (!isSlot(slot)) {
            return BAD_ARGUMENT;
        }
        Slot array = slots[slot];
        if (array.isEmpty()) {
            return EMPTY_SLOT;
        }
        if (array.type != DOUBLES) {
            return WRONG_TYPE;
        }
        if (array.size < concepts.count) {
            return INDEX_OUT_OF_RANGE;
        }
        for (int number = 0; number < concepts.count; number++) {
            // Elements are only ever read as longs, and NaN reads as 0: the array need not tell the two apart.
            array.reals[number] = concepts.rated[number] ? concepts.scores[number] : 0.0;
        }
        return concepts.count;
    }

    private static boolean isSlot(int slot) {
        return slot >= 0 && slot < MOST_SLOTS;
    }

    // The snapshot

    public int snapshot() {
        savedConcepts.take(concepts);
        savedSample.take(sample);
        saved = true;
        return concepts.count;
    }

    public int restore() {
        if (!saved) {
            return NONE;
        }
        concepts.take(savedConcepts);
        sample.take(savedSample);
        return concepts.count;
    }

    private static boolean hasBit(int bits, int place) {
        return ((bits >> place) & 1) == 1;
    }

    /** The domain and the class, with the scores. */
    private static final class Concepts {
        int points;
        int count;
        final int[] sets;
        final double[] scores;
        /** Whether the score is a number. NaN itself is never held, since no operation may answer it. */
        final boolean[] rated;
        /** For each point the numbers of the concepts that contain it, so that whole classes are split at once. */
        private final int[] holders;
        /** Another number after each change of the points or the class, so that a plan can tell that it is old. */
        int edition;

        Concepts() {
            points = FIRST_POINTS;
            count = 0;
            sets = new int[MOST_CONCEPTS];
            scores = new double[MOST_CONCEPTS];
            rated = new boolean[MOST_CONCEPTS];
            holders = new int[MOST_POINTS];
            edition = 0;
        }

        int allPoints() {
            return (1 << points) - 1;
        }

        int allNumbers() {
            return (1 << count) - 1;
        }

        int others(int number) {
            return allNumbers() & ~(1 << number);
        }

        boolean has(int number) {
            return number >= 0 && number < count;
        }

        boolean isPoint(int point) {
            return point >= 0 && point < points;
        }

        boolean isSet(int set) {
            return set >= 0 && set <= allPoints();
        }

        boolean isSize(int size) {
            return size >= 0 && size <= points;
        }

        int find(int set) {
            for (int number = 0; number < count; number++) {
                if (sets[number] == set) {
                    return number;
                }
            }
            return NONE;
        }

        int labelOf(int number, int point) {
            return hasBit(sets[number], point) ? 1 : 0;
        }

        /** The numbers of the concepts that give the label to the point. */
        int labelling(int point, int label) {
            return label == 1 ? holders[point] : allNumbers() & ~holders[point];
        }

        /** How many more of the numbered concepts contain the point than not. */
        int leadOfOnes(int numbers, int point) {
            return Integer.bitCount(numbers & labelling(point, 1)) - Integer.bitCount(numbers & labelling(point, 0));
        }

        boolean isLess(int first, int second) {
            return rated[first] && rated[second] && scores[first] < scores[second];
        }

        void begin(int newPoints) {
            points = newPoints;
            count = 0;
            reindex();
        }

        boolean addIfNew(int set) {
            if (count >= MOST_CONCEPTS || find(set) != NONE) {
                return false;
            }
            sets[count] = set;
            unrate(count);
            index(count);
            count++;
            edition++;
            return true;
        }

        void drop(int number) {
            for (int next = number + 1; next < count; next++) {
                move(next, next - 1, sets[next]);
            }
            count--;
            reindex();
        }

        void flip() {
            for (int number = 0; number < count; number++) {
                sets[number] ^= allPoints();
            }
            reindex();
        }

        void narrow(int set) {
            int before = count;
            count = 0;
            for (int number = 0; number < before; number++) {
                int narrowed = squeeze(sets[number], set);
                if (find(narrowed) == NONE) {
                    move(number, count, narrowed);
                    count++;
                }
            }
            points = Integer.bitCount(set);
            reindex();
        }

        /** The concept's labels on the points of the set, moved together into the lowest bits. */
        private static int squeeze(int concept, int set) {
            int squeezed = 0;
            int place = 0;
            for (int point = 0; point < MOST_POINTS; point++) {
                if (hasBit(set, point)) {
                    if (hasBit(concept, point)) {
                        squeezed |= 1 << place;
                    }
                    place++;
                }
            }
            return squeezed;
        }

        private void move(int from, int to, int set) {
            sets[to] = set;
            scores[to] = scores[from];
            rated[to] = rated[from];
        }

        private void reindex() {
            Arrays.fill(holders, 0);
            for (int number = 0; number < count; number++) {
                index(number);
            }
            edition++;
        }

        private void index(int number) {
            for (int point = 0; point < points; point++) {
                if (hasBit(sets[number], point)) {
                    holders[point] |= 1 << number;
                }
            }
        }

        /** Sets the score to a number, and tells whether it was equal to it before. */
        boolean rate(int number, double score) {
            boolean equal = rated[number] && scores[number] == score;
            rated[number] = true;
            scores[number] = score;
            return equal;
        }

        void unrate(int number) {
            rated[number] = false;
            scores[number] = 0.0;
        }

        void take(Concepts other) {
            points = other.points;
            count = other.count;
            for (int number = 0; number < count; number++) {
                sets[number] = other.sets[number];
                scores[number] = other.scores[number];
                rated[number] = other.rated[number];
            }
            reindex();
        }
    }

    /** The labelled examples, each held as 2 times its point plus its label. */
    private static final class Sample {
        int count;
        final int[] codes;

        Sample() {
            count = 0;
            codes = new int[MOST_EXAMPLES];
        }

        boolean hasRoomFor(int more) {
            return count + more <= MOST_EXAMPLES;
        }

        void append(int point, int label) {
            codes[count] = 2 * point + label;
            count++;
        }

        int pointAt(int index) {
            return codes[index] >> 1;
        }

        int labelAt(int index) {
            return codes[index] & 1;
        }

        void forget() {
            count = 0;
        }

        void take(Sample other) {
            count = other.count;
            System.arraycopy(other.codes, 0, codes, 0, MOST_EXAMPLES);
        }
    }

    /**
     * Finds the sets on which no rival of a concept agrees with it. With all other concepts as rivals these are
     * its teaching sets; with those left over, its sets in a layer; with those not less, its preference sets.
     */
    private static final class Search {
        private final Concepts concepts;
        /** For each set of points, the rivals that agree with the concept on it. */
        private final int[] standing;

        Search(Concepts searched) {
            concepts = searched;
            standing = new int[MOST_SETS];
        }

        boolean beats(int number, int rivals, int set) {
            weigh(number, rivals);
            return standing[set] == 0;
        }

        /** Of the smallest such sets the lowest; all points always do, since the concepts are different. */
        int smallest(int number, int rivals) {
            weigh(number, rivals);
            int best = concepts.allPoints();
            for (int set = 0; set <= concepts.allPoints(); set++) {
                if (standing[set] == 0 && Integer.bitCount(set) < Integer.bitCount(best)) {
                    best = set;
                }
            }
            return best;
        }

        int smallestSize(int number) {
            return Integer.bitCount(smallest(number, concepts.others(number)));
        }

        int countOfSize(int number, int rivals, int size) {
            weigh(number, rivals);
            int found = 0;
            for (int set = 0; set <= concepts.allPoints(); set++) {
                if (standing[set] == 0 && Integer.bitCount(set) == size) {
                    found++;
                }
            }
            return found;
        }

        private void weigh(int number, int rivals) {
            standing[0] = rivals;
            for (int point = 0; point < concepts.points; point++) {
                int alike = concepts.labelling(point, concepts.labelOf(number, point));
                int bit = 1 << point;
                for (int lower = 0; lower < bit; lower++) {
                    standing[bit + lower] = standing[lower] & alike;
                }
            }
        }
    }

    /** The recursive teaching plan, which is dear to make and is kept until the class changes. */
    private static final class Plan {
        private final Concepts concepts;
        private final Search search;
        final int[] layers;
        final int[] sets;
        int height;
        int largest;
        private int edition;

        Plan(Concepts planned, Search used) {
            concepts = planned;
            search = used;
            layers = new int[MOST_CONCEPTS];
            sets = new int[MOST_CONCEPTS];
            height = 0;
            largest = 0;
            edition = planned.edition;
        }

        void renew() {
            if (edition != concepts.edition) {
                make();
                edition = concepts.edition;
            }
        }

        private void make() {
            int left = concepts.allNumbers();
            height = 0;
            largest = 0;
            for (int turn = 0; turn < MOST_CONCEPTS && left != 0; turn++) {
                int size = formSets(left);
                left &= ~takeAway(left, size);
                largest = Math.max(largest, size);
                height++;
            }
        }

        /** Finds the minimum sets of all that are left, and answers the size of the smallest. */
        private int formSets(int left) {
            int least = MOST_POINTS;
            for (int number = 0; number < concepts.count; number++) {
                if (hasBit(left, number)) {
                    sets[number] = search.smallest(number, left & ~(1 << number));
                    least = Math.min(least, Integer.bitCount(sets[number]));
                }
            }
            return least;
        }

        private int takeAway(int left, int size) {
            int taken = 0;
            for (int number = 0; number < concepts.count; number++) {
                if (hasBit(left, number) && Integer.bitCount(sets[number]) == size) {
                    layers[number] = height;
                    taken |= 1 << number;
                }
            }
            return taken;
        }
    }

    /** The traces of the class on sets of points. */
    private static final class Traces {
        private static final int WORDS = 4;

        private final Concepts concepts;
        /** One bit for each of the 256 possible traces. */
        private final long[] seen;

        Traces(Concepts traced) {
            concepts = traced;
            seen = new long[WORDS];
        }

        int countOn(int set) {
            Arrays.fill(seen, 0L);
            for (int number = 0; number < concepts.count; number++) {
                int trace = concepts.sets[number] & set;
                seen[trace >> 6] |= 1L << (trace & 63);
            }
            int found = 0;
            for (int word = 0; word < WORDS; word++) {
                found += Long.bitCount(seen[word]);
            }
            return found;
        }

        boolean shatter(int set) {
            int subsets = 1 << Integer.bitCount(set);
            // There are never more traces than concepts: most sets need not be counted.
            return subsets <= concepts.count && countOn(set) == subsets;
        }
    }

    /**
     * The query depths of sets of concepts. What is left after some answers does not depend on their order, so each
     * set of answers is looked at once: its code has a digit of base 3 for each point, 0 while it is not asked.
     */
    private static final class Queries {
        private static final int[] POWERS = {1, 3, 9, 27, 81, 243, 729, 2187};
        /** The 6561 codes, 16 to a word. */
        private static final int WORDS = 411;
        private static final int UNKNOWN = -1;
        private static final int USELESS = MOST_POINTS + 1;

        private final Concepts concepts;
        /** Four bits for each code, because all objects of a run share one room: 0, or the depth plus 1. */
        private final long[] depths;

        Queries(Concepts asked) {
            concepts = asked;
            depths = new long[WORDS];
        }

        int depth(int numbers) {
            Arrays.fill(depths, 0L);
            return depthOf(numbers, 0, 0);
        }

        int best(int numbers) {
            int depth = depth(numbers);
            for (int point = 0; point < concepts.points; point++) {
                if (depthBy(point, numbers, 0, 0) == depth) {
                    return point;
                }
            }
            return NONE;
        }

        private int depthOf(int numbers, int code, int asked) {
            // Different concepts are told apart when all points are asked, so this also bounds the recursion.
            if (asked >= concepts.points || Integer.bitCount(numbers) <= 1) {
                return 0;
            }
            int known = knownDepth(code);
            if (known != UNKNOWN) {
                return known;
            }
            int depth = leastDepth(numbers, code, asked);
            keepDepth(code, depth);
            return depth;
        }

        private int knownDepth(int code) {
            return (int) (depths[code >> 4] >> placeOf(code) & 15L) - 1;
        }

        private void keepDepth(int code, int depth) {
            depths[code >> 4] |= (depth + 1L) << placeOf(code);
        }

        private static int placeOf(int code) {
            return (code & 15) << 2;
        }

        private int leastDepth(int numbers, int code, int asked) {
            int size = Integer.bitCount(numbers);
            int least = USELESS;
            // One query less could tell at most 2^(least - 1) concepts apart: with more, no other point is better.
            for (int point = 0; point < concepts.points && 1 << (least - 1) >= size; point++) {
                least = Math.min(least, depthBy(point, numbers, code, asked));
            }
            return least;
        }

        /** The depth if the point is asked next; a point that is asked already splits no more, and is useless. */
        private int depthBy(int point, int numbers, int code, int asked) {
            int with = numbers & concepts.labelling(point, 1);
            int without = numbers & ~with;
            if (with == 0 || without == 0) {
                return USELESS;
            }
            int depthWith = depthOf(with, code + 2 * POWERS[point], asked + 1);
            int depthWithout = depthOf(without, code + POWERS[point], asked + 1);
            return 1 + Math.max(depthWith, depthWithout);
        }
    }

    /** An array slot. It has a row for each of the two ways in which elements are held, and uses one of them. */
    private static final class Slot {
        int type;
        int size;
        private final long[] wholes;
        final double[] reals;

        Slot() {
            type = NO_TYPE;
            size = 0;
            wholes = new long[MOST_ELEMENTS];
            reals = new double[MOST_ELEMENTS];
        }

        boolean isEmpty() {
            return type == NO_TYPE;
        }

        boolean hasIndex(int index) {
            return index >= 0 && index < size;
        }

        boolean hasStretch(int first, int length) {
            // Compared by a difference, because a sum of two large ints would wrap around.
            return first >= 0 && length >= 0 && first <= size && length <= size - first;
        }

        void hold(int newType, int newSize) {
            type = newType;
            size = newSize;
            Arrays.fill(wholes, 0L);
            Arrays.fill(reals, 0.0);
        }

        void put(int index, long value) {
            switch (type) {
                case BYTES:
                    wholes[index] = (byte) value;
                    break;
                case SHORTS:
                    wholes[index] = (short) value;
                    break;
                case LONGS:
                    wholes[index] = value;
                    break;
                default:
                    reals[index] = (double) value;
                    break;
            }
        }

        long get(int index) {
            return type == DOUBLES ? (long) reals[index] : wholes[index];
        }

        void take(int first, Slot other, int otherFirst, int length) {
            if (type == DOUBLES) {
                System.arraycopy(other.reals, otherFirst, reals, first, length);
            } else {
                System.arraycopy(other.wholes, otherFirst, wholes, first, length);
            }
        }
    }
}
