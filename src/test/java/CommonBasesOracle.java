import java.util.Random;

/**
 * Long runs of calls, right and wrong ones, with every answer compared to a slow model that reads
 * the document's words as they stand. The seeds are fixed, so every run is the same.
 */
public final class CommonBasesOracle {
    private static final int RUNS = 400;
    private static final int CALLS = 512;
    private static final int MOST_TOLD = 20;
    private static final int FIRST_QUESTION = 9;
    private static final String[] NAMES = {
        "uniform", "graphic", "edge", "classes", "part", "cap", "linear", "entry", "weight", "independent",
        "rank", "span", "circuit", "best", "common", "weightOf", "largest", "witness", "joint", "jointWitness",
    };
    private static final int[] ARITY = {2, 1, 4, 1, 3, 3, 2, 4, 2, 2, 2, 2, 3, 1, 1, 1, 0, 0, 0, 0};
    private static final int[] PRIMES = {2, 3, 5, 7};

    private static int wrong = 0;

    public static void main(String[] args) {
        for (int run = 0; run < RUNS; run++) {
            playRun(run, new Random(run));
        }
        System.out.println(wrong == 0 ? "all answers are as due" : wrong + " answers are not as due");
        if (wrong != 0) {
            System.exit(1);
        }
    }

    private static void playRun(int run, Random random) {
        int asked = run % 20 == 0 ? random.nextInt(30) - 10 : 1 + random.nextInt(10);
        CommonBases x = new CommonBases(asked);
        Model model = new Model(asked);
        int[] args = new int[4];
        for (int turn = 0; turn < CALLS; turn++) {
            int call = nextCall(turn, model, random, args);
            if (random.nextInt(12) == 0) {
                spoil(call, model.n, random, args);
            }
            int got = answer(x, call, args);
            int want = model.answer(call, args);
            if (got != want) {
                tell(run, asked, turn, call, args, got, want);
            }
        }
    }

    /** Changes come in bursts, else a matroid would hardly ever grow beyond its first state. */
    private static int nextCall(int turn, Model model, Random random, int[] args) {
        int step = turn % 128;
        if (step >= 2 && step < 40 || step >= 40 && random.nextInt(12) == 0) {
            return fittingChange(model, random, args);
        }
        int call = step < 2 || random.nextInt(40) == 0
                ? random.nextInt(FIRST_QUESTION)
                : FIRST_QUESTION + random.nextInt(NAMES.length - FIRST_QUESTION);
        fillArguments(call, model, random, args);
        return call;
    }

    private static void tell(int run, int n, int turn, int call, int[] args, int got, int want) {
        wrong++;
        if (wrong <= MOST_TOLD) {
            StringBuilder text = new StringBuilder(NAMES[call]).append('(');
            for (int i = 0; i < ARITY[call]; i++) {
                text.append(i == 0 ? "" : ", ").append(args[i]);
            }
            System.out.println("run " + run + ", n " + n + ", call " + turn + ": " + text + ") answered "
                    + got + ", due is " + want);
        }
    }

    /** A change that the kind of one of the matroids allows. */
    private static int fittingChange(Model model, Random random, int[] args) {
        int which = random.nextInt(2);
        int call = 8;
        if (random.nextInt(6) != 0) {
            switch (model.sides[which].kind) {
                case 'g': call = 2; break;
                case 'c': call = random.nextBoolean() ? 4 : 5; break;
                case 'l': call = 7; break;
                default: call = random.nextInt(8) == 0 ? 0 : 8;
            }
        }
        fillArguments(call, model, random, args);
        if (call != 8) {
            args[0] = which;
        }
        return call;
    }

    private static void fillArguments(int call, Model model, Random random, int[] args) {
        int e = random.nextInt(model.n);
        int set = random.nextInt(1 << model.n);
        args[0] = random.nextInt(2);
        switch (NAMES[call]) {
            case "uniform": args[1] = random.nextInt(11); break;
            case "edge": args[1] = e; args[2] = vertex(random); args[3] = vertex(random); break;
            case "part": args[1] = e; args[2] = random.nextInt(4); break;
            case "cap": args[1] = random.nextInt(4); args[2] = random.nextInt(random.nextBoolean() ? 3 : 11); break;
            case "linear": args[1] = PRIMES[random.nextInt(4)]; break;
            case "entry": args[1] = e; args[2] = random.nextInt(4); args[3] = number(random); break;
            case "weight": args[0] = e; args[1] = weight(random); break;
            case "circuit": args[1] = set & random.nextInt(1 << model.n); args[2] = e; break;
            case "common": args[0] = random.nextInt(model.n + 1); break;
            case "weightOf": args[0] = set; break;
            default: args[1] = set;
        }
    }

    private static int vertex(Random random) {
        return random.nextInt(random.nextInt(3) == 0 ? 8 : 4);
    }

    private static int number(Random random) {
        return random.nextInt(8) == 0 ? random.nextInt() : random.nextInt(5) - 2;
    }

    private static int weight(Random random) {
        return random.nextInt(6) == 0 ? random.nextInt(2000001) - 1000000 : random.nextInt(7) - 3;
    }

    private static void spoil(int call, int n, Random random, int[] args) {
        if (ARITY[call] == 0) {
            return;
        }
        int[] odd = {-1, -2, 2, 4, 8, n, 10, 11, 1 << n, (1 << n) + 1, 1000000, 1000001, -1000001, -1000000,
            Integer.MIN_VALUE, Integer.MAX_VALUE};
        args[random.nextInt(ARITY[call])] = odd[random.nextInt(odd.length)];
    }

    private static int answer(CommonBases x, int call, int[] a) {
        switch (NAMES[call]) {
            case "uniform": return x.uniform(a[0], a[1]) ? 1 : 0;
            case "graphic": return x.graphic(a[0]) ? 1 : 0;
            case "edge": return x.edge(a[0], a[1], a[2], a[3]) ? 1 : 0;
            case "classes": return x.classes(a[0]) ? 1 : 0;
            case "part": return x.part(a[0], a[1], a[2]) ? 1 : 0;
            case "cap": return x.cap(a[0], a[1], a[2]) ? 1 : 0;
            case "linear": return x.linear(a[0], a[1]) ? 1 : 0;
            case "entry": return x.entry(a[0], a[1], a[2], a[3]) ? 1 : 0;
            case "weight": return x.weight(a[0], a[1]) ? 1 : 0;
            case "independent": return x.independent(a[0], a[1]);
            case "rank": return x.rank(a[0], a[1]);
            case "span": return x.span(a[0], a[1]);
            case "circuit": return x.circuit(a[0], a[1], a[2]);
            case "best": return x.best(a[0]);
            case "common": return x.common(a[0]);
            case "weightOf": return x.weightOf(a[0]);
            case "largest": return x.largest();
            case "witness": return x.witness();
            case "joint": return x.joint();
            default: return x.jointWitness();
        }
    }

    /** One matroid of the model: what is independent, set by set, and ranks as largest subsets. */
    private static final class Side {
        final int n;
        char kind = 'u';
        int k = 0;
        int p = 0;
        int[] u;
        int[] v;
        int[] classOf;
        int[] caps;
        int[][] columns;
        boolean[] independent;
        int[] rank;

        Side(int n) {
            this.n = n;
        }

        void look() {
            if (independent != null) {
                return;
            }
            independent = new boolean[1 << n];
            rank = new int[1 << n];
            for (int set = 0; set < 1 << n; set++) {
                independent[set] = isIndependent(set);
                for (int e = 0; e < n; e++) {
                    if ((set >> e & 1) == 1) {
                        rank[set] = Math.max(rank[set], rank[set ^ 1 << e]);
                    }
                }
                if (independent[set]) {
                    rank[set] = Integer.bitCount(set);
                }
            }
        }

        private boolean isIndependent(int set) {
            switch (kind) {
                case 'u': return Integer.bitCount(set) <= k;
                case 'g': return hasNoRing(set);
                case 'c': return keepsCaps(set);
                default: return hasNoCombination(set);
            }
        }

        /** A set of edges contains a ring just when a part of it meets every vertex an even number of times. */
        private boolean hasNoRing(int set) {
            for (int sub = set; sub > 0; sub = (sub - 1) & set) {
                int odd = 0;
                for (int e = 0; e < n; e++) {
                    if ((sub >> e & 1) == 1) {
                        odd ^= 1 << u[e] ^ 1 << v[e];
                    }
                }
                if (odd == 0) {
                    return false;
                }
            }
            return true;
        }

        private boolean keepsCaps(int set) {
            for (int c = 0; c < 4; c++) {
                int count = 0;
                for (int e = 0; e < n; e++) {
                    if ((set >> e & 1) == 1 && classOf[e] == c) {
                        count++;
                    }
                }
                if (count > caps[c]) {
                    return false;
                }
            }
            return true;
        }

        /** Five columns of four numbers are never independent, so at most 7^4 factors are tried. */
        private boolean hasNoCombination(int set) {
            int size = Integer.bitCount(set);
            if (size > 4) {
                return false;
            }
            int all = 1;
            for (int i = 0; i < size; i++) {
                all *= p;
            }
            for (int factors = 1; factors < all; factors++) {
                int[] sum = new int[4];
                int left = factors;
                for (int e = 0; e < n; e++) {
                    if ((set >> e & 1) == 1) {
                        for (int row = 0; row < 4; row++) {
                            sum[row] += left % p * columns[e][row];
                        }
                        left /= p;
                    }
                }
                if (sum[0] % p == 0 && sum[1] % p == 0 && sum[2] % p == 0 && sum[3] % p == 0) {
                    return false;
                }
            }
            return true;
        }
    }

    private static final class Model {
        final int n;
        final int all;
        final int[] weights;
        final Side[] sides;

        Model(int n) {
            this.n = n < 1 || n > 10 ? 8 : n;
            all = (1 << this.n) - 1;
            weights = new int[this.n];
            sides = new Side[] {new Side(this.n), new Side(this.n)};
        }

        int answer(int call, int[] a) {
            String name = NAMES[call];
            switch (name) {
                case "weight": return setWeight(a[0], a[1]) ? 1 : 0;
                case "common": return common(a[0]);
                case "weightOf": return a[0] < 0 || a[0] > all ? 0 : sum(a[0]);
                case "largest": return largest();
                case "witness": return leastSet(false);
                case "joint": return joint();
                case "jointWitness": return leastSet(true);
                default: break;
            }
            boolean known = a[0] == 0 || a[0] == 1;
            if (call < FIRST_QUESTION) {
                return known && change(name, sides[a[0]], a) ? 1 : 0;
            }
            if (!known) {
                return CommonBases.BAD;
            }
            sides[a[0]].look();
            return name.equals("best") ? best(sides[a[0]]) : ask(name, sides[a[0]], a[1], a[2]);
        }

        private boolean setWeight(int e, int w) {
            boolean fine = e >= 0 && e < n && Math.abs((long) w) <= 1000000;
            if (fine) {
                weights[e] = w;
            }
            return fine;
        }

        private boolean change(String name, Side side, int[] a) {
            boolean element = a[1] >= 0 && a[1] < n;
            boolean fine;
            switch (name) {
                case "uniform":
                    fine = a[1] >= 0 && a[1] <= 10;
                    if (fine) {
                        side.kind = 'u';
                        side.k = a[1];
                    }
                    break;
                case "graphic":
                    fine = true;
                    side.kind = 'g';
                    side.u = new int[n];
                    side.v = new int[n];
                    break;
                case "edge":
                    fine = side.kind == 'g' && element && a[2] >= 0 && a[2] <= 7 && a[3] >= 0 && a[3] <= 7;
                    if (fine) {
                        side.u[a[1]] = a[2];
                        side.v[a[1]] = a[3];
                    }
                    break;
                case "classes":
                    fine = true;
                    side.kind = 'c';
                    side.classOf = new int[n];
                    side.caps = new int[4];
                    break;
                case "part":
                    fine = side.kind == 'c' && element && a[2] >= 0 && a[2] <= 3;
                    if (fine) {
                        side.classOf[a[1]] = a[2];
                    }
                    break;
                case "cap":
                    fine = side.kind == 'c' && a[1] >= 0 && a[1] <= 3 && a[2] >= 0 && a[2] <= 10;
                    if (fine) {
                        side.caps[a[1]] = a[2];
                    }
                    break;
                case "linear":
                    fine = a[1] == 2 || a[1] == 3 || a[1] == 5 || a[1] == 7;
                    if (fine) {
                        side.kind = 'l';
                        side.p = a[1];
                        side.columns = new int[n][4];
                    }
                    break;
                default:
                    fine = side.kind == 'l' && element && a[2] >= 0 && a[2] <= 3;
                    if (fine) {
                        side.columns[a[1]][a[2]] = (a[3] % side.p + side.p) % side.p;
                    }
            }
            if (fine) {
                side.independent = null;
            }
            return fine;
        }

        private int ask(String name, Side side, int set, int e) {
            if (set < 0 || set > all) {
                return CommonBases.BAD;
            }
            switch (name) {
                case "independent": return side.independent[set] ? 1 : 0;
                case "rank": return side.rank[set];
                case "span": return span(side, set);
                default: return e < 0 || e >= n ? CommonBases.BAD : circuit(side, set, e);
            }
        }

        private int span(Side side, int set) {
            int sum = 0;
            for (int e = 0; e < n; e++) {
                sum += side.rank[set | 1 << e] == side.rank[set] ? 1 << e : 0;
            }
            return sum;
        }

        private int circuit(Side side, int set, int e) {
            if (!side.independent[set] || (set >> e & 1) == 1 || side.independent[set + (1 << e)]) {
                return 0;
            }
            int sum = 1 << e;
            for (int f = 0; f < n; f++) {
                if ((set >> f & 1) == 1 && side.independent[set - (1 << f) + (1 << e)]) {
                    sum += 1 << f;
                }
            }
            return sum;
        }

        private int best(Side side) {
            int best = -1;
            for (int set = 0; set <= all; set++) {
                boolean basis = side.independent[set] && Integer.bitCount(set) == side.rank[all];
                if (basis && (best < 0 || sum(set) > sum(best) || sum(set) == sum(best) && isBefore(set, best))) {
                    best = set;
                }
            }
            return best;
        }

        /** Whether the first element in THE ORDER that only one of two sets has is in the first of them. */
        private boolean isBefore(int set, int other) {
            int first = -1;
            for (int e = 0; e < n; e++) {
                if (((set ^ other) >> e & 1) == 1 && (first < 0 || weights[e] > weights[first])) {
                    first = e;
                }
            }
            return first >= 0 && (set >> first & 1) == 1;
        }

        private int sum(int set) {
            int sum = 0;
            for (int e = 0; e < n; e++) {
                sum += (set >> e & 1) * weights[e];
            }
            return sum;
        }

        private boolean isCommon(int set) {
            return sides[0].independent[set] && sides[1].independent[set];
        }

        private int common(int k) {
            lookAtBoth();
            int best = CommonBases.NONE;
            for (int set = all; set >= 0; set--) {
                if (Integer.bitCount(set) == k && isCommon(set) && (best < 0 || sum(set) >= sum(best))) {
                    best = set;
                }
            }
            return best;
        }

        private int largest() {
            lookAtBoth();
            int most = 0;
            for (int set = 0; set <= all; set++) {
                most = isCommon(set) ? Math.max(most, Integer.bitCount(set)) : most;
            }
            return most;
        }

        private int joint() {
            lookAtBoth();
            int most = 0;
            for (int set = 0; set <= all; set++) {
                for (int sub = set; Integer.bitCount(set) > most; sub = (sub - 1) & set) {
                    if (sides[0].independent[sub] && sides[1].independent[set - sub]) {
                        most = Integer.bitCount(set);
                    }
                    if (sub == 0) {
                        break;
                    }
                }
            }
            return most;
        }

        private int bound(int set, boolean joint) {
            return joint
                    ? sides[0].rank[set] + sides[1].rank[set] + Integer.bitCount(all - set)
                    : sides[0].rank[set] + sides[1].rank[all - set];
        }

        /** The set that is a subset of all sets with the least bound; that bound is the most there is. */
        private int leastSet(boolean joint) {
            int most = joint ? joint() : largest();
            int inAll = all;
            for (int set = 0; set <= all; set++) {
                if (bound(set, joint) < most) {
                    throw new IllegalStateException("the model's bound is less than what there is");
                }
                inAll &= bound(set, joint) == most ? set : all;
            }
            if (bound(inAll, joint) != most) {
                throw new IllegalStateException("no set of the model is a subset of all the others");
            }
            return inAll;
        }

        private void lookAtBoth() {
            sides[0].look();
            sides[1].look();
        }
    }
}
