import java.util.Arrays;

/**
 * Two matroids on one ground set of at most ten weighted elements. A set of elements is a number,
 * the sum of 2^e over its elements e, so that every question about all sets is a walk over at most
 * 1024 numbers.
 */
public final class CommonBases {
    public static final int BAD = -1;
    public static final int NONE = -2;

    private static final int MOST_ELEMENTS = 10;
    private static final int USUAL_ELEMENTS = 8;
    private static final int MOST_WEIGHT = 1000000;
    private static final int MOST_SIZE = 10;
    private static final int VERTICES = 8;
    private static final int CLASSES = 4;
    private static final int ROWS = 4;
    private static final int UNKNOWN = -1;

    private final int n;
    private final int all;
    private final int[] weights;
    private final Matroid[] matroids;

    public CommonBases(int n) {
        this.n = n >= 1 && n <= MOST_ELEMENTS ? n : USUAL_ELEMENTS;
        all = (1 << this.n) - 1;
        weights = new int[this.n];
        matroids = new Matroid[] {new Matroid(this.n), new Matroid(this.n)};
    }

    public boolean uniform(int which, int k) {
        if (!isMatroid(which) || !isUpTo(k, MOST_SIZE)) {
            return false;
        }
        matroids[which].becomeUniform(k);
        return true;
    }

    public boolean graphic(int which) {
        if (!isMatroid(which)) {
            return false;
        }
        matroids[which].becomeGraphic();
        return true;
    }

    public boolean edge(int which, int e, int u, int v) {
        if (!isMatroid(which) || !isElement(e) || !isUpTo(u, VERTICES - 1) || !isUpTo(v, VERTICES - 1)) {
            return false;
        }
        return matroids[which].setEdge(e, u, v);
    }

    public boolean classes(int which) {
        if (!isMatroid(which)) {
            return false;
        }
        matroids[which].becomeClasses();
        return true;
    }

    public boolean part(int which, int e, int c) {
        if (!isMatroid(which) || !isElement(e) || !isUpTo(c, CLASSES - 1)) {
            return false;
        }
        return matroids[which].setClass(e, c);
    }

    public boolean cap(int which, int c, int k) {
        if (!isMatroid(which) || !isUpTo(c, CLASSES - 1) || !isUpTo(k, MOST_SIZE)) {
            return false;
        }
        return matroids[which].setCap(c, k);
    }

    public boolean linear(int which, int p) {
        if (!isMatroid(which) || !isModulus(p)) {
            return false;
        }
        matroids[which].becomeLinear(p);
        return true;
    }

    public boolean entry(int which, int e, int row, int v) {
        if (!isMatroid(which) || !isElement(e) || !isUpTo(row, ROWS - 1)) {
            return false;
        }
        return matroids[which].setEntry(e, row, v);
    }

    public boolean weight(int e, int w) {
        if (!isElement(e) || w < -MOST_WEIGHT || w > MOST_WEIGHT) {
            return false;
        }
        weights[e] = w;
        return true;
    }

    public int independent(int which, int set) {
        if (!isMatroid(which) || !isSet(set)) {
            return BAD;
        }
        return matroids[which].isIndependent(set) ? 1 : 0;
    }

    public int rank(int which, int set) {
        if (!isMatroid(which) || !isSet(set)) {
            return BAD;
        }
        return matroids[which].rankOf(set);
    }

    public int span(int which, int set) {
        if (!isMatroid(which) || !isSet(set)) {
            return BAD;
        }
        Matroid matroid = matroids[which];
        int spanned = set;
        for (int e = 0; e < n; e++) {
            if (matroid.rankOf(set | 1 << e) == matroid.rankOf(set)) {
                spanned |= 1 << e;
            }
        }
        return spanned;
    }

    public int circuit(int which, int set, int e) {
        if (!isMatroid(which) || !isSet(set) || !isElement(e)) {
            return BAD;
        }
        Matroid matroid = matroids[which];
        int wider = set | 1 << e;
        if (has(set, e) || !matroid.isIndependent(set) || matroid.isIndependent(wider)) {
            return 0;
        }
        int ring = 1 << e;
        for (int other = 0; other < n; other++) {
            if (has(set, other) && matroid.isIndependent(wider & ~(1 << other))) {
                ring |= 1 << other;
            }
        }
        return ring;
    }

    public int best(int which) {
        if (!isMatroid(which)) {
            return BAD;
        }
        Matroid matroid = matroids[which];
        int basis = 0;
        int tried = 0;
        // In a matroid, taking greedily in THE ORDER gives just the basis that is asked for.
        for (int turn = 0; turn < n; turn++) {
            int e = firstInOrder(tried);
            tried |= 1 << e;
            if (matroid.isIndependent(basis | 1 << e)) {
                basis |= 1 << e;
            }
        }
        return basis;
    }

    public int common(int k) {
        int found = NONE;
        int foundWeight = 0;
        for (int set = 0; set <= all; set++) {
            if (Integer.bitCount(set) == k && isCommon(set)) {
                int weight = sumOfWeights(set);
                if (found == NONE || weight > foundWeight) {
                    found = set;
                    foundWeight = weight;
                }
            }
        }
        return found;
    }

    public int weightOf(int set) {
        return isSet(set) ? sumOfWeights(set) : 0;
    }

    public int largest() {
        int size = 0;
        for (int set = 0; set <= all; set++) {
            if (Integer.bitCount(set) > size && isCommon(set)) {
                size = Integer.bitCount(set);
            }
        }
        return size;
    }

    public int witness() {
        // A subset of all the others is also the least number among them: the first that is met.
        int found = 0;
        int least = commonBound(found);
        for (int set = 1; set <= all; set++) {
            int bound = commonBound(set);
            if (bound < least) {
                found = set;
                least = bound;
            }
        }
        return found;
    }

    public int joint() {
        // Trying all unions would be a million pairs; the witness proves the same number.
        return jointBound(jointWitness());
    }

    public int jointWitness() {
        // As in witness(), the first that is met is a subset of all the others.
        int found = 0;
        int least = jointBound(found);
        for (int set = 1; set <= all; set++) {
            int bound = jointBound(set);
            if (bound < least) {
                found = set;
                least = bound;
            }
        }
        return found;
    }

    private int commonBound(int set) {
        return matroids[0].rankOf(set) + matroids[1].rankOf(all & ~set);
    }

    private int jointBound(int set) {
        return matroids[0].rankOf(set) + matroids[1].rankOf(set) + n - Integer.bitCount(set);
    }

    private boolean isCommon(int set) {
        return matroids[0].isIndependent(set) && matroids[1].isIndependent(set);
    }

    private int sumOfWeights(int set) {
        int sum = 0;
        for (int e = 0; e < n; e++) {
            if (has(set, e)) {
                sum += weights[e];
            }
        }
        return sum;
    }

    private int firstInOrder(int tried) {
        int first = 0;
        for (int e = 1; e < n; e++) {
            if (!has(tried, e) && (has(tried, first) || weights[e] > weights[first])) {
                first = e;
            }
        }
        return first;
    }

    private boolean isElement(int e) {
        return e >= 0 && e < n;
    }

    private boolean isSet(int set) {
        return set >= 0 && set <= all;
    }

    private static boolean isMatroid(int which) {
        return which == 0 || which == 1;
    }

    private static boolean isModulus(int p) {
        return p == 2 || p == 3 || p == 5 || p == 7;
    }

    private static boolean isUpTo(int number, int most) {
        return number >= 0 && number <= most;
    }

    private static boolean has(int set, int e) {
        return (set >> e & 1) != 0;
    }

    /** One of the two matroids. All four kinds are made at once, so that no later call makes any. */
    private static final class Matroid {
        private final UniformKind uniformKind;
        private final GraphicKind graphicKind;
        private final ClassesKind classesKind;
        private final LinearKind linearKind;
        private final int[] ranks;
        private boolean anyRankKept;
        private Kind kind;

        Matroid(int n) {
            uniformKind = new UniformKind();
            graphicKind = new GraphicKind(n);
            classesKind = new ClassesKind(n);
            linearKind = new LinearKind(n);
            ranks = new int[1 << n];
            Arrays.fill(ranks, UNKNOWN);
            kind = uniformKind;
        }

        void becomeUniform(int k) {
            uniformKind.most = k;
            become(uniformKind);
        }

        void becomeGraphic() {
            graphicKind.clear();
            become(graphicKind);
        }

        void becomeClasses() {
            classesKind.clear();
            become(classesKind);
        }

        void becomeLinear(int p) {
            linearKind.clear(p);
            become(linearKind);
        }

        boolean setEdge(int e, int u, int v) {
            if (kind instanceof GraphicKind graph) {
                graph.ends[e][0] = u;
                graph.ends[e][1] = v;
                forgetRanks();
                return true;
            }
            return false;
        }

        boolean setClass(int e, int c) {
            if (kind instanceof ClassesKind parts) {
                parts.classOf[e] = c;
                forgetRanks();
                return true;
            }
            return false;
        }

        boolean setCap(int c, int k) {
            if (kind instanceof ClassesKind parts) {
                parts.caps[c] = k;
                forgetRanks();
                return true;
            }
            return false;
        }

        boolean setEntry(int e, int row, int v) {
            if (kind instanceof LinearKind columns) {
                columns.setNumber(e, row, v);
                forgetRanks();
                return true;
            }
            return false;
        }

        boolean isIndependent(int set) {
            return rankOf(set) == Integer.bitCount(set);
        }

        /** Kept once found: the walks over all sets ask for the same ranks again and again. */
        int rankOf(int set) {
            if (ranks[set] == UNKNOWN) {
                ranks[set] = kind.findRank(set);
                anyRankKept = true;
            }
            return ranks[set];
        }

        private void become(Kind next) {
            kind = next;
            forgetRanks();
        }

        private void forgetRanks() {
            if (anyRankKept) {
                Arrays.fill(ranks, UNKNOWN);
                anyRankKept = false;
            }
        }
    }

    /** What a matroid is made of: the one thing to know of it is the rank of each set. */
    private abstract static class Kind {
        abstract int findRank(int set);
    }

    private static final class UniformKind extends Kind {
        private int most;

        int findRank(int set) {
            return Math.min(most, Integer.bitCount(set));
        }
    }

    private static final class GraphicKind extends Kind {
        private final int[][] ends;
        private final int[] groupOf = new int[VERTICES];

        GraphicKind(int n) {
            ends = new int[n][2];
        }

        void clear() {
            for (int e = 0; e < ends.length; e++) {
                Arrays.fill(ends[e], 0);
            }
        }

        /** Every edge that joins two groups of vertices closes no ring, every other one does. */
        int findRank(int set) {
            for (int vertex = 0; vertex < VERTICES; vertex++) {
                groupOf[vertex] = vertex;
            }
            int joined = 0;
            for (int e = 0; e < ends.length; e++) {
                if (has(set, e) && joins(groupOf[ends[e][0]], groupOf[ends[e][1]])) {
                    joined++;
                }
            }
            return joined;
        }

        private boolean joins(int group, int other) {
            if (group == other) {
                return false;
            }
            for (int vertex = 0; vertex < VERTICES; vertex++) {
                if (groupOf[vertex] == other) {
                    groupOf[vertex] = group;
                }
            }
            return true;
        }
    }

    private static final class ClassesKind extends Kind {
        private final int[] classOf;
        private final int[] caps = new int[CLASSES];
        private final int[] counts = new int[CLASSES];

        ClassesKind(int n) {
            classOf = new int[n];
        }

        void clear() {
            Arrays.fill(classOf, 0);
            Arrays.fill(caps, 0);
        }

        int findRank(int set) {
            Arrays.fill(counts, 0);
            for (int e = 0; e < classOf.length; e++) {
                if (has(set, e)) {
                    counts[classOf[e]]++;
                }
            }
            int sum = 0;
            for (int c = 0; c < CLASSES; c++) {
                sum += Math.min(counts[c], caps[c]);
            }
            return sum;
        }
    }

    private static final class LinearKind extends Kind {
        private final int[][] columns;
        /** Row r holds a column whose first number that is not 0 is number r; 0 there: none yet. */
        private final int[][] pivots = new int[ROWS][ROWS];
        private final int[] rest = new int[ROWS];
        private int modulus = 2;

        LinearKind(int n) {
            columns = new int[n][ROWS];
        }

        void clear(int p) {
            modulus = p;
            for (int e = 0; e < columns.length; e++) {
                Arrays.fill(columns[e], 0);
            }
        }

        void setNumber(int e, int row, int v) {
            columns[e][row] = Math.floorMod(v, modulus);
        }

        int findRank(int set) {
            for (int row = 0; row < ROWS; row++) {
                pivots[row][row] = 0;
            }
            int found = 0;
            for (int e = 0; e < columns.length && found < ROWS; e++) {
                if (has(set, e) && addsPivot(e)) {
                    found++;
                }
            }
            return found;
        }

        private boolean addsPivot(int e) {
            System.arraycopy(columns[e], 0, rest, 0, ROWS);
            for (int row = 0; row < ROWS; row++) {
                if (rest[row] != 0) {
                    if (pivots[row][row] == 0) {
                        System.arraycopy(rest, 0, pivots[row], 0, ROWS);
                        return true;
                    }
                    cancel(row);
                }
            }
            return false;
        }

        /** Multiplies crosswise, since then nothing need be divided modulo p. */
        private void cancel(int row) {
            int lead = pivots[row][row];
            int factor = rest[row];
            for (int i = row; i < ROWS; i++) {
                rest[i] = Math.floorMod(rest[i] * lead - pivots[row][i] * factor, modulus);
            }
        }
    }
}
