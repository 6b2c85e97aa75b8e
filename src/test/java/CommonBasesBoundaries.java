import java.util.Arrays;

/**
 * Every sentence of the document that names a boundary case, each with a test of its own: sentence()
 * says which one the lines after it test. No object here is used for more than 512 calls.
 */
public final class CommonBasesBoundaries {
    private static final int BAD = CommonBases.BAD;
    private static final int NONE = CommonBases.NONE;
    private static final int NO = 0;
    private static final int YES = 1;
    private static final int LOW = Integer.MIN_VALUE;
    private static final int HIGH = Integer.MAX_VALUE;
    private static final int MOST_TOLD_PER_SENTENCE = 5;
    private static final int[] MODULI = {2, 3, 5, 7};
    private static final int[] NO_MATROIDS = {-1, 2, 3, 32, 33, -2, -32, LOW, LOW + 1, HIGH};
    private static final int[] NOT_0_TO_10 = {-1, 11, 12, -11, 256, LOW, HIGH};
    private static final int[] NOT_0_TO_7 = {-1, 8, 9, -8, 256, LOW, HIGH};
    private static final int[] NOT_0_TO_3 = {-1, 4, 5, -4, 256, LOW, HIGH};

    private static final int UNIFORM = 0;
    private static final int GRAPHIC = 1;
    private static final int CLASSES = 2;
    private static final int LINEAR = 3;

    /** The states that refused calls meet: six elements, and each kind once in either place. */
    private static final int[][] STATES = {
        {UNIFORM, GRAPHIC}, {GRAPHIC, CLASSES}, {CLASSES, LINEAR}, {LINEAR, UNIFORM},
    };
    private static final int SIX = 6;
    private static final int ALL_SIX = 63;
    private static final int[] SIX_WEIGHTS = {5, -3, 0, 5, 1000000, -1000000};

    private static String sentence = "";
    private static int sentences = 0;
    private static int wrong = 0;
    private static int told = 0;

    /** A call whose answer is a number; false is NO and true is YES. */
    private interface Call {
        int on(CommonBases x);
    }

    /** Questions (or calls that bring hidden things to light) and what an object answers to them. */
    private interface Questions {
        void ask(CommonBases x, Answers answers);
    }

    private static final class Answers {
        private final int[] rows = new int[512];
        private int count = 0;

        void add(int answer) {
            rows[count++] = answer;
        }

        void add(boolean answer) {
            add(bit(answer));
        }

        boolean same(Answers other) {
            return count == other.count && Arrays.equals(rows, other.rows);
        }
    }

    public static void main(String[] args) {
        Runnable[][] groups = {
            terms(), kindsOfTerms(), refusedCalls(), promises1To5(), promises6To10(), promises11To14(),
            promises15To17(), promises18To21(),
        };
        for (Runnable[] tests : groups) {
            for (Runnable test : tests) {
                run(test);
            }
        }
        System.out.println(sentences + " sentences: "
                + (wrong == 0 ? "all answers are as due" : wrong + " answers are not as due"));
        if (wrong != 0) {
            System.exit(1);
        }
    }

    /** A call that throws breaks the sentence it was tested for, but not the tests of the others. */
    private static void run(Runnable test) {
        try {
            test.run();
        } catch (RuntimeException thrown) {
            wrong++;
            System.out.println(sentence + ": a call threw " + thrown);
        }
    }

    private static Runnable[] terms() {
        return new Runnable[] {
            CommonBasesBoundaries::atMost512Calls, CommonBasesBoundaries::groundSet,
            CommonBasesBoundaries::setsFrom0, CommonBasesBoundaries::setsTo2ToTheNMinus1,
            CommonBasesBoundaries::weightsAtFirst0, CommonBasesBoundaries::weightsFromTo,
            CommonBasesBoundaries::weightOfASetIsTheSum, CommonBasesBoundaries::rankOfASet,
            CommonBasesBoundaries::basisOfAMatroid, CommonBasesBoundaries::theOrder,
            CommonBasesBoundaries::emptySetIsCommonAndAJoint,
        };
    }

    private static Runnable[] kindsOfTerms() {
        return new Runnable[] {
            CommonBasesBoundaries::uniformAtMostK, CommonBasesBoundaries::graphicVertices,
            CommonBasesBoundaries::graphicEdgeToItself, CommonBasesBoundaries::graphicTwoEdgesBetweenTheSame,
            CommonBasesBoundaries::graphicLongestRing, CommonBasesBoundaries::graphicRankIsAtMostSeven,
            CommonBasesBoundaries::classesAtMostTheCap, CommonBasesBoundaries::linearColumnOfZeros,
            CommonBasesBoundaries::linearMultiples, CommonBasesBoundaries::linearRankIsAtMostFour,
            CommonBasesBoundaries::linearModulus,
        };
    }

    private static Runnable[] refusedCalls() {
        return new Runnable[] {
            CommonBasesBoundaries::refusedChangesChangeNothing,
            CommonBasesBoundaries::refusedQuestionsChangeNothing, CommonBasesBoundaries::whichIsTestedFirst,
        };
    }

    private static Runnable[] promises1To5() {
        return new Runnable[] {
            CommonBasesBoundaries::newObjectOf1To10, CommonBasesBoundaries::newObjectOf8,
            CommonBasesBoundaries::newObjectIsUniformWith0, CommonBasesBoundaries::uniformWithK,
            CommonBasesBoundaries::uniformWithMoreThanN, CommonBasesBoundaries::uniformRefusesWhich,
            CommonBasesBoundaries::uniformRefusesK, CommonBasesBoundaries::graphicAllToItself,
            CommonBasesBoundaries::graphicRefusesWhich, CommonBasesBoundaries::edgeAtItsEnds,
            CommonBasesBoundaries::edgeRefusesWhich, CommonBasesBoundaries::edgeRefusesKind,
            CommonBasesBoundaries::edgeRefusesElement, CommonBasesBoundaries::edgeRefusesVertex,
            CommonBasesBoundaries::classesAllInClass0, CommonBasesBoundaries::classesEveryCap0,
            CommonBasesBoundaries::classesRefusesWhich,
        };
    }

    private static Runnable[] promises6To10() {
        return new Runnable[] {
            CommonBasesBoundaries::partAtItsEnds, CommonBasesBoundaries::partRefusesWhich,
            CommonBasesBoundaries::partRefusesKind, CommonBasesBoundaries::partRefusesElement,
            CommonBasesBoundaries::partRefusesClass, CommonBasesBoundaries::capAtItsEnds,
            CommonBasesBoundaries::capRefusesWhich, CommonBasesBoundaries::capRefusesKind,
            CommonBasesBoundaries::capRefusesClass, CommonBasesBoundaries::capRefusesK,
            CommonBasesBoundaries::linearAllColumns0, CommonBasesBoundaries::linearRefusesWhich,
            CommonBasesBoundaries::linearRefusesP, CommonBasesBoundaries::entryAtItsEnds,
            CommonBasesBoundaries::entryIsTheRemainder, CommonBasesBoundaries::entryBecomes,
            CommonBasesBoundaries::entryRefusesWhich, CommonBasesBoundaries::entryRefusesKind,
            CommonBasesBoundaries::entryRefusesElement, CommonBasesBoundaries::entryRefusesRow,
            CommonBasesBoundaries::weightAtItsEnds, CommonBasesBoundaries::weightRefusesElement,
            CommonBasesBoundaries::weightRefusesWeight,
        };
    }

    private static Runnable[] promises11To14() {
        return new Runnable[] {
            CommonBasesBoundaries::independentOfEmptyAndFull, CommonBasesBoundaries::independentRefusesWhich,
            CommonBasesBoundaries::independentRefusesSet, CommonBasesBoundaries::rankOfEmptyAndFull,
            CommonBasesBoundaries::rankRefusesWhich, CommonBasesBoundaries::rankRefusesSet,
            CommonBasesBoundaries::spanOfEmptyAndFull, CommonBasesBoundaries::spanHasItsOwnElements,
            CommonBasesBoundaries::spanRefusesWhich, CommonBasesBoundaries::spanRefusesSet,
            CommonBasesBoundaries::circuitOfDependentSet, CommonBasesBoundaries::circuitOfSetWithE,
            CommonBasesBoundaries::circuitOfSetIndependentWithE, CommonBasesBoundaries::circuitHasEBesides,
            CommonBasesBoundaries::circuitOfAllElements, CommonBasesBoundaries::circuitRefusesWhich,
            CommonBasesBoundaries::circuitRefusesSet, CommonBasesBoundaries::circuitRefusesElement,
            CommonBasesBoundaries::circuitRefusesBeforeItAnswers0,
        };
    }

    private static Runnable[] promises15To17() {
        return new Runnable[] {
            CommonBasesBoundaries::bestOfOneBasis, CommonBasesBoundaries::bestIsABasis,
            CommonBasesBoundaries::bestOfSeveral, CommonBasesBoundaries::bestRefusesWhich,
            CommonBasesBoundaries::commonOfNoElements, CommonBasesBoundaries::commonOfAllElements,
            CommonBasesBoundaries::commonIsTheLeastNumber, CommonBasesBoundaries::commonOfTheLightest,
            CommonBasesBoundaries::commonNone, CommonBasesBoundaries::commonNoneWhenNegative,
            CommonBasesBoundaries::commonNoneWhenMoreThanN, CommonBasesBoundaries::weightOfEmptyAndFull,
            CommonBasesBoundaries::weightOfNoSuchSet, CommonBasesBoundaries::weightOfMayLookLikeBad,
        };
    }

    private static Runnable[] promises18To21() {
        return new Runnable[] {
            CommonBasesBoundaries::largestOf0AndN, CommonBasesBoundaries::witnessOfEmptyAndFull,
            CommonBasesBoundaries::witnessIsASubsetOfAll, CommonBasesBoundaries::witnessSumIsLargest,
            CommonBasesBoundaries::jointOf0AndN, CommonBasesBoundaries::jointIsTheLargestUnion,
            CommonBasesBoundaries::jointWitnessOfEmptyAndFull,
            CommonBasesBoundaries::jointWitnessIsASubsetOfAll, CommonBasesBoundaries::jointWitnessSumIsJoint,
        };
    }

    private static void sentence(String words) {
        sentence = words;
        sentences++;
        told = 0;
    }

    private static void due(String call, int got, int want) {
        if (got == want) {
            return;
        }
        wrong++;
        told++;
        if (told <= MOST_TOLD_PER_SENTENCE) {
            System.out.println(sentence + ": " + call + " answered " + got + ", due is " + want);
        }
    }

    private static int bit(boolean answer) {
        return answer ? YES : NO;
    }

    /** Numbers beside and far from the elements, and those that a shift by 32 would bring back. */
    private static int[] noElements(int n) {
        return new int[] {-1, n, n + 1, 31, 32, 32 + n - 1, -32, LOW, HIGH};
    }

    private static int[] noSets(int n) {
        return new int[] {-1, -2, 1 << n, (1 << n) + 1, (2 << n) - 1, 1 << 16, -(1 << n), LOW, LOW + 1, HIGH};
    }

    private static CommonBases uniforms(int n, int k0, int k1) {
        CommonBases x = new CommonBases(n);
        x.uniform(0, k0);
        x.uniform(1, k1);
        return x;
    }

    private static CommonBases make(int[] kinds) {
        CommonBases x = new CommonBases(SIX);
        for (int e = 0; e < SIX; e++) {
            x.weight(e, SIX_WEIGHTS[e]);
        }
        for (int which = 0; which < 2; which++) {
            becomeKind(x, which, kinds[which]);
        }
        return x;
    }

    private static void becomeKind(CommonBases x, int which, int kind) {
        if (kind == UNIFORM) {
            x.uniform(which, 3 - which);
        } else if (kind == GRAPHIC) {
            becomeTriangle(x, which);
        } else if (kind == CLASSES) {
            becomeFourClasses(x, which);
        } else {
            becomeColumns(x, which);
        }
    }

    /** Every edge twice, so that a change of one edge shows in the rank of the pair. */
    private static void becomeTriangle(CommonBases x, int which) {
        int[][] ends = {{0, 1}, {1, 7}, {7, 0}};
        x.graphic(which);
        for (int e = 0; e < SIX; e++) {
            x.edge(which, e, ends[e % 3][0], ends[e % 3][1]);
        }
    }

    private static void becomeFourClasses(CommonBases x, int which) {
        int[] caps = {1, 2, 0, 4};
        x.classes(which);
        for (int c = 0; c < 4; c++) {
            x.cap(which, c, caps[c]);
        }
        for (int e = 0; e < SIX; e++) {
            x.part(which, e, e % 4);
        }
    }

    /** Every column twice and without a 0, so that a change of one number shows in the pair's rank. */
    private static void becomeColumns(CommonBases x, int which) {
        int[][] columns = {{1, 2, 3, 4}, {1, 1, 2, 3}, {4, 3, 1, 1}};
        x.linear(which, which == 0 ? 7 : 5);
        for (int e = 0; e < SIX; e++) {
            for (int row = 0; row < 4; row++) {
                x.entry(which, e, row, columns[e % 3][row]);
            }
        }
    }

    /** The call gets this answer in every state, and the object then answers like one without it. */
    private static void refused(String name, int answer, Call call) {
        for (int[] kinds : STATES) {
            refusedIn(kinds, name, answer, call);
        }
    }

    private static void refusedIn(int[] kinds, String name, int answer, Call call) {
        Questions[] all = {
            CommonBasesBoundaries::askSets, (x, answers) -> askCircuits(x, 0, answers),
            (x, answers) -> askCircuits(x, 1, answers), CommonBasesBoundaries::askWholes,
            CommonBasesBoundaries::askKinds, CommonBasesBoundaries::askCaps, CommonBasesBoundaries::askClasses,
        };
        String state = name + " in the state " + Arrays.toString(kinds);
        for (Questions questions : all) {
            CommonBases x = make(kinds);
            due(state, call.on(x), answer);
            Answers after = new Answers();
            questions.ask(x, after);
            Answers without = new Answers();
            questions.ask(make(kinds), without);
            due(state + " changed nothing", bit(after.same(without)), YES);
        }
    }

    /** The call is refused for each of these matroids that is not of the kind. */
    private static void refusedByOtherKinds(String name, int kind, int which, Call call) {
        int others = 0;
        for (int[] kinds : STATES) {
            if (kinds[which] != kind) {
                refusedIn(kinds, name, NO, call);
                others++;
            }
        }
        due("kinds that refuse " + name, others, 3);
    }

    private static void askSets(CommonBases x, Answers answers) {
        for (int which = 0; which < 2; which++) {
            for (int set = 0; set <= ALL_SIX; set++) {
                answers.add(x.independent(which, set));
                answers.add(x.rank(which, set));
                answers.add(x.span(which, set));
            }
        }
    }

    private static void askCircuits(CommonBases x, int which, Answers answers) {
        for (int set = 0; set <= ALL_SIX; set++) {
            for (int e = 0; e < SIX; e++) {
                answers.add(x.circuit(which, set, e));
            }
        }
    }

    private static void askWholes(CommonBases x, Answers answers) {
        answers.add(x.best(0));
        answers.add(x.best(1));
        for (int k = 0; k <= SIX; k++) {
            answers.add(x.common(k));
        }
        for (int set = 0; set <= ALL_SIX + 1; set++) {
            answers.add(x.weightOf(set));
        }
        answers.add(x.largest());
        answers.add(x.witness());
        answers.add(x.joint());
        answers.add(x.jointWitness());
        answers.add(x.weight(SIX - 1, 0));
        answers.add(x.weight(SIX, 0));
    }

    /** Of which kind a matroid is shows in what it lets be changed, the modulus in what counts as 0. */
    private static void askKinds(CommonBases x, Answers answers) {
        for (int which = 0; which < 2; which++) {
            answers.add(x.edge(which, 0, 0, 0));
            answers.add(x.part(which, 0, 0));
            answers.add(x.cap(which, 0, 0));
            for (int row = 0; row < 4; row++) {
                answers.add(x.entry(which, 0, row, 0));
            }
            for (int v = 0; v <= 14; v++) {
                x.entry(which, 0, 0, v);
                answers.add(x.independent(which, 1));
            }
        }
    }

    private static void askCaps(CommonBases x, Answers answers) {
        for (int which = 0; which < 2; which++) {
            for (int c = 0; c < 4; c++) {
                for (int e = 0; e < SIX; e++) {
                    x.part(which, e, c);
                }
                answers.add(x.rank(which, ALL_SIX));
            }
        }
    }

    private static void askClasses(CommonBases x, Answers answers) {
        for (int which = 0; which < 2; which++) {
            for (int c = 0; c < 4; c++) {
                for (int other = 0; other < 4; other++) {
                    x.cap(which, other, other == c ? 10 : 0);
                }
                answers.add(x.span(which, 0));
            }
        }
    }

    private static void atMost512Calls() {
        sentence("What it is: An object is used for at most 512 calls after it has been made");
        due512th("independent(0, 1023)", NO, x -> x.independent(0, 1023));
        due512th("rank(1, 1023)", 5, x -> x.rank(1, 1023));
        due512th("rank(0, 1024)", BAD, x -> x.rank(0, 1024));
        due512th("span(0, 0)", 0, x -> x.span(0, 0));
        due512th("circuit(1, 31, 9)", 543, x -> x.circuit(1, 31, 9));
        due512th("best(1)", 992, x -> x.best(1));
        due512th("common(4)", 960, x -> x.common(4));
        due512th("common(5)", NONE, x -> x.common(5));
        due512th("weightOf(1023)", 45, x -> x.weightOf(1023));
        due512th("largest()", 4, x -> x.largest());
        due512th("witness()", 1023, x -> x.witness());
        due512th("joint()", 9, x -> x.joint());
        due512th("jointWitness()", 1023, x -> x.jointWitness());
        due512th("linear(0, 7)", YES, x -> bit(x.linear(0, 7)));
        due512th("graphic(2)", NO, x -> bit(x.graphic(2)));
    }

    private static void due512th(String name, int want, Call last) {
        for (int questions = 0; questions < 2; questions++) {
            CommonBases x = new CommonBases(10);
            for (int call = 1; call <= 499; call++) {
                if (questions == 0) {
                    changeOrAsk(x, call);
                } else {
                    ask(x, call);
                }
            }
            for (int e = 0; e < 10; e++) {
                x.weight(e, e);
            }
            x.uniform(0, 4);
            x.uniform(1, 5);
            due(name + " as call 512", last.on(x), want);
        }
    }

    /** Long calls and changes of kind by turns, as a run of 512 calls might bring them. */
    private static void changeOrAsk(CommonBases x, int call) {
        int which = call / 8 % 2;
        switch (call % 8) {
            case 0 -> x.graphic(which);
            case 1 -> x.edge(which, call % 10, call % 7, 7);
            case 2 -> x.linear(which, MODULI[call / 16 % 4]);
            case 3 -> x.entry(which, call % 10, call % 4, call);
            case 4 -> x.jointWitness();
            case 5 -> x.classes(which);
            case 6 -> x.part(which, call % 10, call % 4);
            default -> x.common(call % 11);
        }
    }

    private static void ask(CommonBases x, int call) {
        int which = call / 8 % 2;
        switch (call % 8) {
            case 0 -> x.independent(which, call);
            case 1 -> x.rank(which, call);
            case 2 -> x.span(which, call);
            case 3 -> x.circuit(which, call, call % 10);
            case 4 -> x.best(which);
            case 5 -> x.common(call % 11);
            case 6 -> x.witness();
            default -> x.joint();
        }
    }

    private static void groundSet() {
        sentence("Terms: THE GROUND SET has the elements 0 .. n - 1");
        for (int n = 1; n <= 10; n++) {
            for (int e = -2; e <= 12; e++) {
                CommonBases x = new CommonBases(n);
                int there = bit(e >= 0 && e < n);
                String element = "element " + e + " of " + n;
                due("weight of " + element, bit(x.weight(e, 1)), there);
                due("circuit with " + element, x.circuit(0, 0, e), there == YES ? 1 << e : BAD);
                x.graphic(0);
                due("edge of " + element, bit(x.edge(0, e, 0, 1)), there);
                x.classes(0);
                due("part of " + element, bit(x.part(0, e, 1)), there);
                x.linear(0, 2);
                due("entry of " + element, bit(x.entry(0, e, 0, 1)), there);
            }
        }
    }

    private static void setsFrom0() {
        sentence("Terms: A SET of elements is a number from 0");
        for (int n = 1; n <= 10; n++) {
            CommonBases x = uniforms(n, n, n);
            dueSet(x, n, 0);
            dueNoSet(x, n, -1);
            dueNoSet(x, n, -(1 << n));
            dueNoSet(x, n, LOW);
        }
    }

    private static void setsTo2ToTheNMinus1() {
        sentence("Terms: A SET of elements is a number to 2^n - 1");
        for (int n = 1; n <= 10; n++) {
            CommonBases x = uniforms(n, n, n);
            dueSet(x, n, (1 << n) - 1);
            dueNoSet(x, n, 1 << n);
            dueNoSet(x, n, (1 << n) + 1);
            dueNoSet(x, n, HIGH);
        }
    }

    /** Where every set is independent and every element weighs 1, size, rank and weight are the same. */
    private static void dueSet(CommonBases x, int n, int set) {
        weighAll(x, n, 1);
        int size = Integer.bitCount(set);
        for (int which = 0; which < 2; which++) {
            String given = "(" + which + ", " + set + ") of " + n + " elements";
            due("independent" + given, x.independent(which, set), YES);
            due("rank" + given, x.rank(which, set), size);
            due("span" + given, x.span(which, set), set);
            due("circuit" + given, x.circuit(which, set, 0), 0);
        }
        due("weightOf(" + set + ") of " + n + " elements", x.weightOf(set), size);
    }

    private static void dueNoSet(CommonBases x, int n, int set) {
        weighAll(x, n, 1);
        for (int which = 0; which < 2; which++) {
            String given = "(" + which + ", " + set + ") of " + n + " elements";
            due("independent" + given, x.independent(which, set), BAD);
            due("rank" + given, x.rank(which, set), BAD);
            due("span" + given, x.span(which, set), BAD);
            due("circuit" + given, x.circuit(which, set, 0), BAD);
        }
        due("weightOf(" + set + ") of " + n + " elements", x.weightOf(set), 0);
    }

    private static void weighAll(CommonBases x, int n, int w) {
        for (int e = 0; e < n; e++) {
            x.weight(e, w);
        }
    }

    private static void weightsAtFirst0() {
        sentence("Terms: Every element has a WEIGHT, at first 0");
        for (int n = 1; n <= 10; n++) {
            CommonBases x = new CommonBases(n);
            for (int e = 0; e < n; e++) {
                due("weightOf(" + (1 << e) + ") at first", x.weightOf(1 << e), 0);
            }
        }
    }

    private static void weightsFromTo() {
        sentence("Terms: a WEIGHT, an int from -1000000 to 1000000");
        for (int n = 1; n <= 10; n++) {
            CommonBases x = new CommonBases(n);
            for (int e = 0; e < n; e++) {
                due("weight(e, 1000000)", bit(x.weight(e, 1000000)), YES);
                due("weight(e, 1000001)", bit(x.weight(e, 1000001)), NO);
                due("weightOf after 1000000", x.weightOf(1 << e), 1000000);
                due("weight(e, -1000000)", bit(x.weight(e, -1000000)), YES);
                due("weight(e, -1000001)", bit(x.weight(e, -1000001)), NO);
                due("weightOf after -1000000", x.weightOf(1 << e), -1000000);
            }
        }
    }

    private static void weightOfASetIsTheSum() {
        sentence("Terms: the weight of a set is the sum of those of its elements");
        CommonBases x = new CommonBases(10);
        for (int w : new int[] {1000000, -1000000}) {
            weighAll(x, 10, w);
            for (int size = 0; size <= 10; size++) {
                due("the weight of " + size + " elements", x.weightOf((1 << size) - 1), size * w);
            }
        }
        x.weight(0, 1000000);
        due("the weights of the two ends", x.weightOf(3), 0);
    }

    private static void rankOfASet() {
        sentence("Terms: The RANK of a set is the size of its largest independent subsets");
        for (int[] kinds : STATES) {
            for (int which = 0; which < 2; which++) {
                boolean[] independent = independentSets(kinds, which);
                CommonBases x = make(kinds);
                for (int set = 0; set <= ALL_SIX; set++) {
                    int most = 0;
                    for (int part = 0; part <= set; part++) {
                        if ((part & set) == part && independent[part]) {
                            most = Math.max(most, Integer.bitCount(part));
                        }
                    }
                    due("rank(" + which + ", " + set + ")", x.rank(which, set), most);
                }
            }
        }
    }

    private static boolean[] independentSets(int[] kinds, int which) {
        CommonBases x = make(kinds);
        boolean[] independent = new boolean[ALL_SIX + 1];
        for (int set = 0; set <= ALL_SIX; set++) {
            independent[set] = x.independent(which, set) == YES;
        }
        return independent;
    }

    private static void basisOfAMatroid() {
        sentence("Terms: A BASIS is an independent set with as many elements as the rank of the whole ground set");
        for (int n = 1; n <= 10; n++) {
            for (int k = 0; k <= 10; k++) {
                CommonBases x = uniforms(n, k, 10 - k);
                due("elements of a basis", Integer.bitCount(x.best(0)), Math.min(k, n));
                due("elements of a basis", Integer.bitCount(x.best(1)), Math.min(10 - k, n));
            }
        }
    }

    private static void theOrder() {
        sentence("Terms: greater weights come first, of equal weights those with lesser numbers");
        for (int first = 0; first < 10; first++) {
            for (int last = 0; last < 10; last++) {
                if (first != last) {
                    CommonBases x = uniforms(10, 1, 9);
                    x.weight(first, 1);
                    x.weight(last, -1);
                    due("the first of all", x.best(0), 1 << first);
                    due("all but the last", x.best(1), 1023 - (1 << last));
                }
            }
        }
        theOrderOfTwo();
        CommonBases x = uniforms(10, 1, 9);
        due("the first of equals", x.best(0), 1);
        due("all but the last of equals", x.best(1), 511);
        weighAll(x, 10, -1000000);
        due("the first of the lightest", x.best(0), 1);
        x.weight(9, 1000000);
        due("the heaviest before the lightest", x.best(0), 512);
        due("the last of the lightest is left out", x.best(1), 767);
    }

    private static void theOrderOfTwo() {
        int[] some = {-1000000, -999999, -65536, -32769, -256, -129, -1, 0, 1, 128, 256, 32768, 65536, 999999, 1000000};
        for (int w : some) {
            for (int v : some) {
                CommonBases x = uniforms(2, 1, 1);
                x.weight(0, w);
                x.weight(1, v);
                due("the first of weights " + w + " and " + v, x.best(0), v > w ? 2 : 1);
            }
        }
    }

    private static void emptySetIsCommonAndAJoint() {
        sentence("Terms: COMMON and JOINT, of matroids in which only the empty set is independent");
        for (int n = 1; n <= 10; n++) {
            for (int kind = UNIFORM; kind <= LINEAR; kind++) {
                CommonBases x = new CommonBases(n);
                becomeEmptyKind(x, 0, kind);
                becomeEmptyKind(x, 1, 3 - kind);
                due("independent(0, 0)", x.independent(0, 0), YES);
                due("independent(1, 0)", x.independent(1, 0), YES);
                due("common(0)", x.common(0), 0);
                due("largest()", x.largest(), 0);
                due("joint()", x.joint(), 0);
            }
        }
    }

    private static void becomeEmptyKind(CommonBases x, int which, int kind) {
        boolean done = kind == UNIFORM ? x.uniform(which, 0)
                : kind == GRAPHIC ? x.graphic(which)
                : kind == CLASSES ? x.classes(which)
                : x.linear(which, 2);
        due("the empty matroid of kind " + kind, bit(done), YES);
    }

    private static void uniformAtMostK() {
        sentence("Terms: UNIFORM, with a number k: the sets with at most k elements");
        for (int which = 0; which < 2; which++) {
            for (int k = 0; k <= 10; k++) {
                CommonBases x = new CommonBases(10);
                x.uniform(which, k);
                for (int size = 0; size <= 10; size++) {
                    int high = 1023 & ~((1 << 10 - size) - 1);
                    due("the first " + size + " when k is " + k, x.independent(which, (1 << size) - 1), bit(size <= k));
                    due("the last " + size + " when k is " + k, x.independent(which, high), bit(size <= k));
                }
            }
        }
    }

    private static void graphicVertices() {
        sentence("Terms: GRAPHIC: an edge between two vertices of 0 .. 7");
        for (int u = 0; u <= 7; u++) {
            for (int v = 0; v <= 7; v++) {
                CommonBases x = new CommonBases(1);
                x.graphic(0);
                due("edge(0, 0, " + u + ", " + v + ")", bit(x.edge(0, 0, u, v)), YES);
                due("that edge alone", x.independent(0, 1), bit(u != v));
            }
        }
    }

    private static void graphicEdgeToItself() {
        sentence("Terms: an edge from a vertex to itself is a ring");
        for (int v = 0; v <= 7; v++) {
            CommonBases x = new CommonBases(2);
            x.graphic(1);
            x.edge(1, 0, v, v);
            x.edge(1, 1, v, (v + 1) % 8);
            due("a ring at " + v, x.independent(1, 1), NO);
            due("a ring at " + v + " and an edge", x.independent(1, 3), NO);
            due("the edge alone", x.independent(1, 2), YES);
        }
    }

    private static void graphicTwoEdgesBetweenTheSame() {
        sentence("Terms: so are two edges between the same two vertices");
        for (int u = 0; u < 7; u++) {
            for (int v = u + 1; v <= 7; v++) {
                for (int s = 0; s <= 7; s++) {
                    for (int t = 0; t <= 7; t++) {
                        dueTwoEdges(u, v, s, t);
                    }
                }
            }
        }
    }

    private static void dueTwoEdges(int u, int v, int s, int t) {
        CommonBases x = new CommonBases(2);
        x.graphic(0);
        x.edge(0, 0, u, v);
        x.edge(0, 1, s, t);
        boolean sameTwo = s == u && t == v || s == v && t == u;
        due("edges " + u + v + " and " + s + t, x.independent(0, 3), bit(s != t && !sameTwo));
    }

    private static void graphicLongestRing() {
        sentence("Terms: the sets whose edges contain no ring, of all eight vertices");
        CommonBases x = new CommonBases(8);
        x.graphic(0);
        for (int e = 0; e < 8; e++) {
            x.edge(0, e, e, (e + 1) % 8);
        }
        for (int set = 0; set <= 255; set++) {
            due("independent(0, " + set + ")", x.independent(0, set), bit(set != 255));
        }
    }

    private static void graphicRankIsAtMostSeven() {
        sentence("Terms: the sets whose edges contain no ring, of ten edges on eight vertices");
        CommonBases x = new CommonBases(10);
        x.graphic(1);
        for (int e = 0; e < 10; e++) {
            x.edge(1, e, e % 8, (e < 7 ? e + 1 : e + 3) % 8);
        }
        due("a tree of seven edges", x.independent(1, 127), YES);
        for (int e = 7; e < 10; e++) {
            due("an eighth edge " + e, x.independent(1, 127 | 1 << e), NO);
        }
        due("rank(1, 1023)", x.rank(1, 1023), 7);
    }

    private static void classesAtMostTheCap() {
        sentence("Terms: CLASSES: of each class at most as many elements as its cap says");
        for (int c = 0; c <= 3; c++) {
            for (int k = 0; k <= 10; k++) {
                CommonBases x = new CommonBases(10);
                x.classes(0);
                for (int other = 0; other <= 3; other++) {
                    x.cap(0, other, other == c ? k : 10 - k);
                }
                for (int e = 0; e < 10; e++) {
                    x.part(0, e, c);
                }
                for (int size = 0; size <= 10; size++) {
                    due(size + " of class " + c + " when its cap is " + k,
                            x.independent(0, (1 << size) - 1), bit(size <= k));
                }
            }
        }
        oneClassTooFull();
    }

    private static void oneClassTooFull() {
        CommonBases x = new CommonBases(8);
        x.classes(1);
        for (int e = 0; e < 8; e++) {
            x.part(1, e, e % 4);
            x.cap(1, e % 4, 1);
        }
        due("one of each class", x.independent(1, 15), YES);
        for (int e = 4; e < 8; e++) {
            due("two of class " + e % 4, x.independent(1, 15 | 1 << e), NO);
        }
    }

    private static void linearColumnOfZeros() {
        sentence("Terms: LINEAR: the sets whose columns are linearly independent, with a column of zeros");
        for (int p : MODULI) {
            CommonBases x = new CommonBases(2);
            x.linear(0, p);
            x.entry(0, 1, 3, 1);
            due("nothing", x.independent(0, 0), YES);
            due("a column of zeros", x.independent(0, 1), NO);
            due("a column with one number", x.independent(0, 2), YES);
            due("both", x.independent(0, 3), NO);
        }
    }

    private static void linearMultiples() {
        sentence("Terms: LINEAR: linearly independent modulo p, of two columns");
        for (int p : MODULI) {
            for (int v = 0; v < p; v++) {
                for (int w = 0; w < p; w++) {
                    CommonBases x = new CommonBases(2);
                    x.linear(0, p);
                    putColumn(x, 0, 0, new int[] {0, 1, 0, p - 1});
                    putColumn(x, 0, 1, new int[] {0, v, 0, w});
                    due("(1, -1) and (" + v + ", " + w + ") modulo " + p, x.independent(0, 3), bit((v + w) % p != 0));
                }
            }
        }
    }

    private static void putColumn(CommonBases x, int which, int e, int[] column) {
        for (int row = 0; row < 4; row++) {
            x.entry(which, e, row, column[row]);
        }
    }

    private static void linearRankIsAtMostFour() {
        sentence("Terms: LINEAR: a column of four numbers, so that no five are independent");
        for (int p : MODULI) {
            CommonBases x = new CommonBases(10);
            x.linear(1, p);
            for (int e = 0; e < 10; e++) {
                putColumn(x, 1, e, new int[] {e & 1, e >> 1 & 1, e >> 2 & 1, e >> 3 & 1});
            }
            due("the columns 1, 2, 4 and 8", x.independent(1, 278), YES);
            for (int e = 0; e < 10; e++) {
                boolean fifth = (278 >> e & 1) == 0;
                due("these with " + e, x.independent(1, 278 | 1 << e), bit(!fifth));
            }
            due("rank of ten columns", x.rank(1, 1023), 4);
        }
    }

    private static void linearModulus() {
        sentence("Terms: LINEAR, over the numbers modulo p (p is 2, 3, 5 or 7)");
        for (int p : MODULI) {
            for (int v = 0; v <= 15; v++) {
                CommonBases x = new CommonBases(2);
                x.linear(0, p);
                putColumn(x, 0, 0, new int[] {1, 0, 0, 0});
                putColumn(x, 0, 1, new int[] {1, 0, v, 0});
                due("(1, 0) and (1, " + v + ") modulo " + p, x.independent(0, 3), bit(v % p != 0));
            }
        }
    }

    private static void refusedQuestionsChangeNothing() {
        sentence("Terms: A call that is refused (BAD) changes nothing");
        refused("independent(0, 64)", BAD, x -> x.independent(0, 64));
        refused("rank(1, -1)", BAD, x -> x.rank(1, -1));
        refused("span(0, 64)", BAD, x -> x.span(0, 64));
        refused("circuit(1, 7, 6)", BAD, x -> x.circuit(1, 7, 6));
        refused("circuit(0, 64, 0)", BAD, x -> x.circuit(0, 64, 0));
        refused("best(2)", BAD, x -> x.best(2));
        refused("common(7)", NONE, x -> x.common(7));
        refused("weightOf(64)", 0, x -> x.weightOf(64));
    }

    private static void refusedChangesChangeNothing() {
        sentence("Terms: A call that is refused (false) changes nothing");
        for (int which = 0; which < 2; which++) {
            int i = which;
            refused("uniform(" + i + ", 11)", NO, x -> bit(x.uniform(i, 11)));
            refused("edge(" + i + ", 6, 1, 2)", NO, x -> bit(x.edge(i, 6, 1, 2)));
            refused("edge(" + i + ", 0, 2, 8)", NO, x -> bit(x.edge(i, 0, 2, 8)));
            refused("part(" + i + ", 0, 4)", NO, x -> bit(x.part(i, 0, 4)));
            refused("cap(" + i + ", 0, 11)", NO, x -> bit(x.cap(i, 0, 11)));
            refused("linear(" + i + ", 4)", NO, x -> bit(x.linear(i, 4)));
            refused("entry(" + i + ", 0, 4, 0)", NO, x -> bit(x.entry(i, 0, 4, 0)));
        }
        refused("graphic(2)", NO, x -> bit(x.graphic(2)));
        refused("classes(2)", NO, x -> bit(x.classes(2)));
        refused("weight(0, 1000001)", NO, x -> bit(x.weight(0, 1000001)));
        refused("weight(6, 1)", NO, x -> bit(x.weight(6, 1)));
    }

    private static void whichIsTestedFirst() {
        sentence("Terms: Whether an argument that is named \"which\" is 0 or 1 is tested first");
        for (int which : new int[] {-1, 2, LOW, HIGH}) {
            for (int far : new int[] {-1, 99, LOW, HIGH}) {
                String given = "(" + which + ", " + far + " ..)";
                refused("uniform" + given, NO, x -> bit(x.uniform(which, far)));
                refused("edge" + given, NO, x -> bit(x.edge(which, far, far, far)));
                refused("part" + given, NO, x -> bit(x.part(which, far, far)));
                refused("cap" + given, NO, x -> bit(x.cap(which, far, far)));
                refused("linear" + given, NO, x -> bit(x.linear(which, far)));
                refused("entry" + given, NO, x -> bit(x.entry(which, far, far, far)));
                refused("independent" + given, BAD, x -> x.independent(which, far));
                refused("rank" + given, BAD, x -> x.rank(which, far));
                refused("span" + given, BAD, x -> x.span(which, far));
                refused("circuit" + given, BAD, x -> x.circuit(which, far, far));
            }
        }
    }

    private static void newObjectOf1To10() {
        sentence("Promise 1: A ground set of n elements");
        for (int n = 1; n <= 10; n++) {
            dueElements(new CommonBases(n), n, n);
        }
    }

    private static void newObjectOf8() {
        sentence("Promise 1: 8 when n is not 1 .. 10");
        for (int n : new int[] {0, -1, -8, -10, 11, 12, 16, 31, 32, 33, 42, 256, 1000000, LOW, LOW + 1, HIGH}) {
            dueElements(new CommonBases(n), n, 8);
        }
    }

    private static void dueElements(CommonBases x, int given, int n) {
        String made = "new CommonBases(" + given + "), ";
        x.uniform(0, 10);
        due(made + "its whole ground set", x.rank(0, (1 << n) - 1), n);
        due(made + "a set beyond", x.rank(0, 1 << n), BAD);
        due(made + "its last element", bit(x.weight(n - 1, 1)), YES);
        due(made + "an element beyond", bit(x.weight(n, 1)), NO);
        due(made + "best(0)", x.best(0), (1 << n) - 1);
    }

    private static void newObjectIsUniformWith0() {
        sentence("Promise 1: both matroids are UNIFORM with k = 0");
        for (int n = 0; n <= 11; n++) {
            for (int which = 0; which < 2; which++) {
                CommonBases x = new CommonBases(n);
                due("independent(which, 0)", x.independent(which, 0), YES);
                due("independent(which, 1)", x.independent(which, 1), NO);
                due("rank(which, 1)", x.rank(which, 1), 0);
                due("edge", bit(x.edge(which, 0, 0, 1)), NO);
                due("part", bit(x.part(which, 0, 0)), NO);
                due("cap", bit(x.cap(which, 0, 1)), NO);
                due("entry", bit(x.entry(which, 0, 0, 1)), NO);
                due("joint()", x.joint(), 0);
            }
        }
    }

    private static void uniformWithK() {
        sentence("Promise 2: Matroid which becomes UNIFORM with k, of 0 .. 10");
        for (int[] kinds : STATES) {
            for (int which = 0; which < 2; which++) {
                for (int k = 0; k <= 10; k++) {
                    CommonBases x = make(kinds);
                    int other = x.rank(1 - which, ALL_SIX);
                    due("uniform(" + which + ", " + k + ")", bit(x.uniform(which, k)), YES);
                    due("its rank", x.rank(which, ALL_SIX), Math.min(k, SIX));
                    due("the rank of the other", x.rank(1 - which, ALL_SIX), other);
                    due("edge", bit(x.edge(which, 0, 0, 1)), NO);
                    due("part", bit(x.part(which, 0, 1)), NO);
                    due("entry", bit(x.entry(which, 0, 0, 1)), NO);
                }
            }
        }
    }

    private static void uniformWithMoreThanN() {
        sentence("Promise 2: k of 0 .. 10, more than there are elements");
        for (int n = 1; n <= 10; n++) {
            CommonBases x = new CommonBases(n);
            for (int k = n; k <= 10; k++) {
                due("uniform(1, " + k + ") of " + n, bit(x.uniform(1, k)), YES);
                due("its rank", x.rank(1, (1 << n) - 1), n);
                due("its best", x.best(1), (1 << n) - 1);
            }
        }
    }

    private static void uniformRefusesWhich() {
        sentence("Promise 2: False when which is not 0 or 1");
        for (int which : NO_MATROIDS) {
            refused("uniform(" + which + ", 6)", NO, x -> bit(x.uniform(which, 6)));
        }
    }

    private static void uniformRefusesK() {
        sentence("Promise 2: False when k is not 0 .. 10");
        for (int k : NOT_0_TO_10) {
            refused("uniform(0, " + k + ")", NO, x -> bit(x.uniform(0, k)));
            refused("uniform(1, " + k + ")", NO, x -> bit(x.uniform(1, k)));
        }
    }

    private static void graphicAllToItself() {
        sentence("Promise 3: every element an edge from vertex 0 to itself");
        for (int[] kinds : STATES) {
            for (int which = 0; which < 2; which++) {
                CommonBases x = make(kinds);
                int other = x.rank(1 - which, ALL_SIX);
                due("graphic(" + which + ")", bit(x.graphic(which)), YES);
                due("the span of nothing", x.span(which, 0), ALL_SIX);
                due("the rank of the other", x.rank(1 - which, ALL_SIX), other);
                due("part", bit(x.part(which, 0, 1)), NO);
                due("entry", bit(x.entry(which, 0, 0, 1)), NO);
                due("edge", bit(x.edge(which, 5, 0, 7)), YES);
                due("the span of nothing, with one edge", x.span(which, 0), ALL_SIX - 32);
            }
        }
    }

    private static void graphicRefusesWhich() {
        sentence("Promise 3: False when which is not 0 or 1");
        for (int which : NO_MATROIDS) {
            refused("graphic(" + which + ")", NO, x -> bit(x.graphic(which)));
        }
    }

    private static void edgeAtItsEnds() {
        sentence("Promise 4: element e becomes an edge between u and v, the first and last of each");
        for (int n = 1; n <= 10; n++) {
            for (int e : new int[] {0, n - 1}) {
                CommonBases x = new CommonBases(n);
                x.graphic(1);
                due("edge(1, e, 0, 7)", bit(x.edge(1, e, 0, 7)), YES);
                due("only e is no ring", x.span(1, 0), (1 << n) - 1 - (1 << e));
                due("edge(1, e, 7, 0)", bit(x.edge(1, e, 7, 0)), YES);
                due("only e is no ring, the other way round", x.span(1, 0), (1 << n) - 1 - (1 << e));
                due("edge(1, e, 7, 7)", bit(x.edge(1, e, 7, 7)), YES);
                due("all are rings again", x.span(1, 0), (1 << n) - 1);
            }
        }
    }

    private static void edgeRefusesWhich() {
        sentence("Promise 4: False when which is not 0 or 1");
        for (int which : NO_MATROIDS) {
            refused("edge(" + which + ", 0, 2, 3)", NO, x -> bit(x.edge(which, 0, 2, 3)));
        }
    }

    private static void edgeRefusesKind() {
        sentence("Promise 4: False when that matroid is of another kind");
        refusedByOtherKinds("edge(0, 0, 2, 3)", GRAPHIC, 0, x -> bit(x.edge(0, 0, 2, 3)));
        refusedByOtherKinds("edge(1, 5, 2, 3)", GRAPHIC, 1, x -> bit(x.edge(1, 5, 2, 3)));
    }

    private static void edgeRefusesElement() {
        sentence("Promise 4: False when e is no element");
        for (int e : noElements(SIX)) {
            refused("edge(0, " + e + ", 2, 3)", NO, x -> bit(x.edge(0, e, 2, 3)));
            refused("edge(1, " + e + ", 2, 3)", NO, x -> bit(x.edge(1, e, 2, 3)));
        }
    }

    private static void edgeRefusesVertex() {
        sentence("Promise 4: False when u or v is not 0 .. 7");
        for (int far : NOT_0_TO_7) {
            for (int which = 0; which < 2; which++) {
                int i = which;
                String given = "edge(" + i + ", 0 .. " + far + ")";
                refused(given + " as u", NO, x -> bit(x.edge(i, 0, far, 3)));
                refused(given + " as v", NO, x -> bit(x.edge(i, 0, 3, far)));
                refused(given + " as both", NO, x -> bit(x.edge(i, 0, far, far)));
            }
        }
    }

    private static void classesAllInClass0() {
        sentence("Promise 5: Matroid which becomes one of CLASSES, every element in class 0");
        for (int[] kinds : STATES) {
            for (int which = 0; which < 2; which++) {
                CommonBases x = make(kinds);
                due("classes(" + which + ")", bit(x.classes(which)), YES);
                for (int c = 1; c <= 3; c++) {
                    x.cap(which, c, 10);
                }
                due("none in the classes 1 to 3", x.rank(which, ALL_SIX), 0);
                x.cap(which, 0, 10);
                due("all in class 0", x.rank(which, ALL_SIX), SIX);
                due("edge", bit(x.edge(which, 0, 0, 1)), NO);
                due("entry", bit(x.entry(which, 0, 0, 1)), NO);
            }
        }
    }

    private static void classesEveryCap0() {
        sentence("Promise 5: and every cap 0");
        for (int[] kinds : STATES) {
            for (int which = 0; which < 2; which++) {
                CommonBases x = make(kinds);
                int other = x.rank(1 - which, ALL_SIX);
                x.classes(which);
                for (int c = 0; c <= 3; c++) {
                    for (int e = 0; e < SIX; e++) {
                        x.part(which, e, c);
                    }
                    due("the cap of class " + c, x.rank(which, ALL_SIX), 0);
                }
                due("the rank of the other", x.rank(1 - which, ALL_SIX), other);
            }
        }
    }

    private static void classesRefusesWhich() {
        sentence("Promise 5: False when which is not 0 or 1");
        for (int which : NO_MATROIDS) {
            refused("classes(" + which + ")", NO, x -> bit(x.classes(which)));
        }
    }

    private static void partAtItsEnds() {
        sentence("Promise 6: element e comes to class c, the first and last of each");
        for (int n = 1; n <= 10; n++) {
            for (int e : new int[] {0, n - 1}) {
                for (int c = 0; c <= 3; c++) {
                    CommonBases x = new CommonBases(n);
                    x.classes(0);
                    x.cap(0, c, 10);
                    due("part(0, e, 3 - c)", bit(x.part(0, e, 3 - c)), YES);
                    due("e is in a class with cap 0", x.independent(0, 1 << e), NO);
                    due("part(0, e, c)", bit(x.part(0, e, c)), YES);
                    due("e is in the class with a cap", x.independent(0, 1 << e), YES);
                    due("the others are in class 0", x.rank(0, (1 << n) - 1), c == 0 ? n : 1);
                }
            }
        }
    }

    private static void partRefusesWhich() {
        sentence("Promise 6: False when which is not 0 or 1");
        for (int which : NO_MATROIDS) {
            refused("part(" + which + ", 0, 3)", NO, x -> bit(x.part(which, 0, 3)));
        }
    }

    private static void partRefusesKind() {
        sentence("Promise 6: False when that matroid is of another kind");
        refusedByOtherKinds("part(0, 0, 3)", CLASSES, 0, x -> bit(x.part(0, 0, 3)));
        refusedByOtherKinds("part(1, 5, 3)", CLASSES, 1, x -> bit(x.part(1, 5, 3)));
    }

    private static void partRefusesElement() {
        sentence("Promise 6: False when e is no element");
        for (int e : noElements(SIX)) {
            refused("part(0, " + e + ", 3)", NO, x -> bit(x.part(0, e, 3)));
            refused("part(1, " + e + ", 3)", NO, x -> bit(x.part(1, e, 3)));
        }
    }

    private static void partRefusesClass() {
        sentence("Promise 6: False when c is not 0 .. 3");
        for (int c : NOT_0_TO_3) {
            refused("part(0, 5, " + c + ")", NO, x -> bit(x.part(0, 5, c)));
            refused("part(1, 5, " + c + ")", NO, x -> bit(x.part(1, 5, c)));
        }
    }

    private static void capAtItsEnds() {
        sentence("Promise 7: the cap of class c becomes k, the first and last of each");
        for (int c = 0; c <= 3; c++) {
            CommonBases x = new CommonBases(10);
            x.classes(1);
            for (int e = 0; e < 10; e++) {
                x.part(1, e, c);
            }
            for (int k = 10; k >= 0; k--) {
                due("cap(1, " + c + ", " + k + ")", bit(x.cap(1, c, k)), YES);
                due("cap of another class", bit(x.cap(1, (c + 1) % 4, 10 - k)), YES);
                due("the rank of ten of class " + c, x.rank(1, 1023), k);
            }
        }
    }

    private static void capRefusesWhich() {
        sentence("Promise 7: False when which is not 0 or 1");
        for (int which : NO_MATROIDS) {
            refused("cap(" + which + ", 0, 5)", NO, x -> bit(x.cap(which, 0, 5)));
        }
    }

    private static void capRefusesKind() {
        sentence("Promise 7: False when that matroid is of another kind");
        refusedByOtherKinds("cap(0, 0, 5)", CLASSES, 0, x -> bit(x.cap(0, 0, 5)));
        refusedByOtherKinds("cap(1, 3, 5)", CLASSES, 1, x -> bit(x.cap(1, 3, 5)));
    }

    private static void capRefusesClass() {
        sentence("Promise 7: False when c is not 0 .. 3");
        for (int c : NOT_0_TO_3) {
            refused("cap(0, " + c + ", 5)", NO, x -> bit(x.cap(0, c, 5)));
            refused("cap(1, " + c + ", 5)", NO, x -> bit(x.cap(1, c, 5)));
        }
    }

    private static void capRefusesK() {
        sentence("Promise 7: False when k is not 0 .. 10");
        for (int k : NOT_0_TO_10) {
            refused("cap(0, 3, " + k + ")", NO, x -> bit(x.cap(0, 3, k)));
            refused("cap(1, 3, " + k + ")", NO, x -> bit(x.cap(1, 3, k)));
        }
    }

    private static void linearAllColumns0() {
        sentence("Promise 8: Matroid which becomes LINEAR modulo p, all columns 0");
        for (int[] kinds : STATES) {
            for (int p : MODULI) {
                for (int which = 0; which < 2; which++) {
                    CommonBases x = make(kinds);
                    int other = x.rank(1 - which, ALL_SIX);
                    due("linear(" + which + ", " + p + ")", bit(x.linear(which, p)), YES);
                    due("the span of nothing", x.span(which, 0), ALL_SIX);
                    due("the rank of the other", x.rank(1 - which, ALL_SIX), other);
                    x.entry(which, 5, 3, p);
                    due("p is 0", x.span(which, 0), ALL_SIX);
                    x.entry(which, 5, 3, p - 1);
                    due("p - 1 is not 0", x.span(which, 0), ALL_SIX - 32);
                    due("edge", bit(x.edge(which, 0, 0, 1)), NO);
                    due("part", bit(x.part(which, 0, 1)), NO);
                }
            }
        }
    }

    private static void linearRefusesWhich() {
        sentence("Promise 8: False when which is not 0 or 1");
        for (int which : NO_MATROIDS) {
            refused("linear(" + which + ", 3)", NO, x -> bit(x.linear(which, 3)));
        }
    }

    private static void linearRefusesP() {
        sentence("Promise 8: False when p is not 2, 3, 5 or 7");
        for (int p : new int[] {0, 1, 4, 6, 8, 9, 10, 11, 13, 14, 21, 35, -1, -2, -3, -5, -7, 258, LOW, HIGH}) {
            refused("linear(0, " + p + ")", NO, x -> bit(x.linear(0, p)));
            refused("linear(1, " + p + ")", NO, x -> bit(x.linear(1, p)));
        }
    }

    private static void entryAtItsEnds() {
        sentence("Promise 9: number row (0 .. 3) of the column of element e, the first and last of each");
        for (int n = 1; n <= 10; n++) {
            for (int e : new int[] {0, n - 1}) {
                for (int row = 0; row <= 3; row++) {
                    CommonBases x = new CommonBases(n);
                    x.linear(1, 7);
                    due("entry(1, e, " + row + ", 1)", bit(x.entry(1, e, row, 1)), YES);
                    due("only e is not 0", x.span(1, 0), (1 << n) - 1 - (1 << e));
                    due("entry of 0", bit(x.entry(1, e, row, 0)), YES);
                    due("e is 0 again", x.span(1, 0), (1 << n) - 1);
                }
            }
        }
        fourRowsAreFour();
    }

    private static void fourRowsAreFour() {
        CommonBases x = new CommonBases(4);
        x.linear(0, 2);
        for (int row = 0; row <= 3; row++) {
            x.entry(0, row, row, 1);
            due("columns with rows of their own", x.rank(0, 15), row + 1);
        }
    }

    private static void entryIsTheRemainder() {
        sentence("Promise 9: becomes the remainder of v by p that is from 0 to p - 1");
        for (int p : MODULI) {
            for (int v = -2 * p; v <= 2 * p; v++) {
                dueRemainder(p, v);
            }
            for (int i = 0; i < p; i++) {
                dueRemainder(p, LOW + i);
                dueRemainder(p, HIGH - i);
            }
        }
    }

    /** Two columns (1, 0, 0, v) and (1, 0, 0, r) are dependent only when v and r are the same modulo p. */
    private static void dueRemainder(int p, int v) {
        int remainder = (int) (((long) v % p + p) % p);
        for (int r = 0; r < p; r++) {
            CommonBases x = new CommonBases(2);
            x.linear(1, p);
            putColumn(x, 1, 0, new int[] {1, 0, 0, v});
            putColumn(x, 1, 1, new int[] {1, 0, 0, r});
            due(v + " and " + r + " modulo " + p, x.rank(1, 3), r == remainder ? 1 : 2);
        }
    }

    private static void entryBecomes() {
        sentence("Promise 9: becomes, whatever it was before");
        for (int before : new int[] {0, 1, 6, -1, LOW, HIGH}) {
            CommonBases x = new CommonBases(1);
            x.linear(0, 7);
            x.entry(0, 0, 2, before);
            x.entry(0, 0, 2, 3);
            due("3 after " + before, x.independent(0, 1), YES);
            x.entry(0, 0, 2, -7);
            due("-7 after 3", x.independent(0, 1), NO);
        }
    }

    private static void entryRefusesWhich() {
        sentence("Promise 9: False when which is not 0 or 1");
        for (int which : NO_MATROIDS) {
            refused("entry(" + which + ", 0, 0, 3)", NO, x -> bit(x.entry(which, 0, 0, 3)));
        }
    }

    private static void entryRefusesKind() {
        sentence("Promise 9: False when that matroid is of another kind");
        refusedByOtherKinds("entry(0, 0, 0, 3)", LINEAR, 0, x -> bit(x.entry(0, 0, 0, 3)));
        refusedByOtherKinds("entry(1, 5, 3, 2)", LINEAR, 1, x -> bit(x.entry(1, 5, 3, 2)));
    }

    private static void entryRefusesElement() {
        sentence("Promise 9: False when e is no element");
        for (int e : noElements(SIX)) {
            refused("entry(0, " + e + ", 0, 3)", NO, x -> bit(x.entry(0, e, 0, 3)));
            refused("entry(1, " + e + ", 0, 3)", NO, x -> bit(x.entry(1, e, 0, 3)));
        }
    }

    private static void entryRefusesRow() {
        sentence("Promise 9: False when row is not 0 .. 3");
        for (int row : NOT_0_TO_3) {
            refused("entry(0, 0, " + row + ", 0)", NO, x -> bit(x.entry(0, 0, row, 0)));
            refused("entry(1, 0, " + row + ", 0)", NO, x -> bit(x.entry(1, 0, row, 0)));
        }
    }

    private static void weightAtItsEnds() {
        sentence("Promise 10: The weight of element e becomes w, the first and last of each");
        for (int n = 1; n <= 10; n++) {
            for (int e : new int[] {0, n - 1}) {
                for (int w : new int[] {1000000, 999999, 1, 0, -1, -999999, -1000000}) {
                    CommonBases x = new CommonBases(n);
                    x.weight(e, 77);
                    due("weight(e, " + w + ")", bit(x.weight(e, w)), YES);
                    due("its weight", x.weightOf(1 << e), w);
                    due("the weight of all", x.weightOf((1 << n) - 1), w);
                }
            }
        }
    }

    private static void weightRefusesElement() {
        sentence("Promise 10: False when e is no element");
        for (int e : noElements(SIX)) {
            refused("weight(" + e + ", 9)", NO, x -> bit(x.weight(e, 9)));
        }
    }

    private static void weightRefusesWeight() {
        sentence("Promise 10: False when w is not from -1000000 to 1000000");
        for (int w : new int[] {1000001, 1000002, 2000000, -1000001, -1000002, LOW, LOW + 1, HIGH}) {
            refused("weight(0, " + w + ")", NO, x -> bit(x.weight(0, w)));
            refused("weight(5, " + w + ")", NO, x -> bit(x.weight(5, w)));
        }
    }

    private static void independentOfEmptyAndFull() {
        sentence("Promise 11: 1 when the set is independent in matroid which, else 0, of nothing and of all");
        for (int n = 1; n <= 10; n++) {
            CommonBases x = uniforms(n, n, n - 1);
            due("nothing in matroid 0", x.independent(0, 0), YES);
            due("nothing in matroid 1", x.independent(1, 0), YES);
            due("all in matroid 0", x.independent(0, (1 << n) - 1), YES);
            due("all in matroid 1", x.independent(1, (1 << n) - 1), NO);
        }
    }

    private static void independentRefusesWhich() {
        sentence("Promise 11: BAD when which is not 0 or 1");
        for (int which : NO_MATROIDS) {
            refused("independent(" + which + ", 0)", BAD, x -> x.independent(which, 0));
        }
    }

    private static void independentRefusesSet() {
        sentence("Promise 11: BAD when there is no such set");
        for (int set : noSets(SIX)) {
            refused("independent(0, " + set + ")", BAD, x -> x.independent(0, set));
            refused("independent(1, " + set + ")", BAD, x -> x.independent(1, set));
        }
    }

    private static void rankOfEmptyAndFull() {
        sentence("Promise 12: The rank of a set in matroid which, of nothing and of all");
        for (int n = 1; n <= 10; n++) {
            CommonBases x = uniforms(n, n, n - 1);
            due("nothing in matroid 0", x.rank(0, 0), 0);
            due("nothing in matroid 1", x.rank(1, 0), 0);
            due("all in matroid 0", x.rank(0, (1 << n) - 1), n);
            due("all in matroid 1", x.rank(1, (1 << n) - 1), n - 1);
        }
    }

    private static void rankRefusesWhich() {
        sentence("Promise 12: BAD when which is not 0 or 1");
        for (int which : NO_MATROIDS) {
            refused("rank(" + which + ", 0)", BAD, x -> x.rank(which, 0));
        }
    }

    private static void rankRefusesSet() {
        sentence("Promise 12: BAD when there is no such set");
        for (int set : noSets(SIX)) {
            refused("rank(0, " + set + ")", BAD, x -> x.rank(0, set));
            refused("rank(1, " + set + ")", BAD, x -> x.rank(1, set));
        }
    }

    private static void spanOfEmptyAndFull() {
        sentence("Promise 13: The set of all elements that can be added without making its rank greater");
        for (int n = 1; n <= 10; n++) {
            int all = (1 << n) - 1;
            CommonBases x = uniforms(n, n, 0);
            due("nothing, where all is independent", x.span(0, 0), 0);
            due("all, where all is independent", x.span(0, all), all);
            due("nothing, where nothing else is independent", x.span(1, 0), all);
            due("all, where nothing else is independent", x.span(1, all), all);
            x.uniform(1, n - 1);
            due("one too few", x.span(1, all >> 2), n < 2 ? all : all >> 2);
            due("just enough", x.span(1, all >> 1), all);
        }
    }

    private static void spanHasItsOwnElements() {
        sentence("Promise 13: (its own elements among them)");
        for (int[] kinds : STATES) {
            for (int set = 0; set <= ALL_SIX; set++) {
                CommonBases x = make(kinds);
                for (int which = 0; which < 2; which++) {
                    int want = 0;
                    for (int e = 0; e < SIX; e++) {
                        boolean own = (set >> e & 1) != 0;
                        if (own || x.rank(which, set | 1 << e) == x.rank(which, set)) {
                            want |= 1 << e;
                        }
                    }
                    due("span(" + which + ", " + set + ")", x.span(which, set), want);
                }
            }
        }
    }

    private static void spanRefusesWhich() {
        sentence("Promise 13: BAD when which is not 0 or 1");
        for (int which : NO_MATROIDS) {
            refused("span(" + which + ", 0)", BAD, x -> x.span(which, 0));
        }
    }

    private static void spanRefusesSet() {
        sentence("Promise 13: BAD when there is no such set");
        for (int set : noSets(SIX)) {
            refused("span(0, " + set + ")", BAD, x -> x.span(0, set));
            refused("span(1, " + set + ")", BAD, x -> x.span(1, set));
        }
    }

    /** The elements 0 and 1 side by side, 2 beside them only at one end, 3 an edge to itself. */
    private static CommonBases fourEdges() {
        CommonBases x = new CommonBases(4);
        x.graphic(0);
        x.edge(0, 0, 0, 1);
        x.edge(0, 1, 1, 0);
        x.edge(0, 2, 1, 2);
        x.edge(0, 3, 7, 7);
        return x;
    }

    private static void circuitOfDependentSet() {
        sentence("Promise 14: Otherwise 0, the set being not independent");
        CommonBases x = fourEdges();
        due("a ring of two, and an edge", x.circuit(0, 3, 2), 0);
        due("a ring of two, and an edge to itself", x.circuit(0, 3, 3), 0);
        due("an edge to itself, and one more", x.circuit(0, 8, 0), 0);
        due("nothing else is independent", x.circuit(1, 1, 2), 0);
        due("all but one, where nothing else is independent", x.circuit(1, 7, 3), 0);
    }

    private static void circuitOfSetWithE() {
        sentence("Promise 14: Otherwise 0, the set containing e");
        CommonBases x = fourEdges();
        x.uniform(1, 4);
        for (int set = 0; set <= 15; set++) {
            for (int e = 0; e < 4; e++) {
                if ((set >> e & 1) != 0) {
                    due("circuit(0, " + set + ", " + e + ")", x.circuit(0, set, e), 0);
                    due("circuit(1, " + set + ", " + e + ")", x.circuit(1, set, e), 0);
                }
            }
        }
    }

    private static void circuitOfSetIndependentWithE() {
        sentence("Promise 14: Otherwise 0, the set being independent with e added");
        CommonBases x = fourEdges();
        x.uniform(1, 4);
        due("nothing and an edge", x.circuit(0, 0, 0), 0);
        due("an edge and an edge", x.circuit(0, 1, 2), 0);
        due("all but one and that one, where all is independent", x.circuit(1, 7, 3), 0);
        x.uniform(1, 3);
        due("just enough", x.circuit(1, 3, 3), 0);
    }

    private static void circuitHasEBesides() {
        sentence("Promise 14: and e besides");
        CommonBases x = fourEdges();
        due("nothing and an edge to itself", x.circuit(0, 0, 3), 8);
        due("two edges and an edge to itself", x.circuit(0, 5, 3), 8);
        due("two edges and one beside the first", x.circuit(0, 5, 1), 3);
        for (int e = 0; e < 4; e++) {
            due("nothing and " + e + ", where nothing else is independent", x.circuit(1, 0, e), 1 << e);
        }
    }

    private static void circuitOfAllElements() {
        sentence("Promise 14: those elements without each of which it is independent again, all of them");
        for (int n = 1; n <= 10; n++) {
            for (int e = 0; e < n; e++) {
                int all = (1 << n) - 1;
                CommonBases x = uniforms(n, n - 1, n);
                due("all but " + e + ", and " + e, x.circuit(0, all - (1 << e), e), all);
                due("the same, where all is independent", x.circuit(1, all - (1 << e), e), 0);
            }
        }
    }

    private static void circuitRefusesWhich() {
        sentence("Promise 14: BAD when which is not 0 or 1");
        for (int which : NO_MATROIDS) {
            refused("circuit(" + which + ", 0, 0)", BAD, x -> x.circuit(which, 0, 0));
        }
    }

    private static void circuitRefusesSet() {
        sentence("Promise 14: BAD when there is no such set");
        for (int set : noSets(SIX)) {
            refused("circuit(0, " + set + ", 0)", BAD, x -> x.circuit(0, set, 0));
            refused("circuit(1, " + set + ", 5)", BAD, x -> x.circuit(1, set, 5));
        }
    }

    private static void circuitRefusesElement() {
        sentence("Promise 14: BAD when e is no element");
        for (int e : noElements(SIX)) {
            refused("circuit(0, 0, " + e + ")", BAD, x -> x.circuit(0, 0, e));
            refused("circuit(1, 1, " + e + ")", BAD, x -> x.circuit(1, 1, e));
        }
    }

    private static void circuitRefusesBeforeItAnswers0() {
        sentence("Promise 14: BAD, though the set is not independent, so that else it would be 0");
        for (int e : noElements(SIX)) {
            refused("circuit(0, 63, " + e + ")", BAD, x -> x.circuit(0, ALL_SIX, e));
            refused("circuit(1, 63, " + e + ")", BAD, x -> x.circuit(1, ALL_SIX, e));
        }
    }

    private static void bestOfOneBasis() {
        sentence("Promise 15: Of the bases, when there is but one");
        for (int n = 1; n <= 10; n++) {
            for (int w : new int[] {0, -1000000, 1000000}) {
                CommonBases x = uniforms(n, 0, 10);
                weighAll(x, n, w);
                due("the empty basis", x.best(0), 0);
                due("the basis of all", x.best(1), (1 << n) - 1);
            }
        }
    }

    private static void bestIsABasis() {
        sentence("Promise 15: Of the bases with the greatest weight, be it less than that of fewer elements");
        CommonBases x = uniforms(5, 2, 4);
        for (int e = 0; e < 5; e++) {
            x.weight(e, -1000000 + e);
        }
        due("the two heaviest", x.best(0), 24);
        due("the four heaviest", x.best(1), 30);
    }

    private static void bestOfSeveral() {
        sentence("Promise 15: the one that contains the first element of those that are in only one of the two");
        int[][] weights = {SIX_WEIGHTS, {0, 0, 0, 0, 0, 0}, {1, 1, 2, 2, 1, 1}, {-1, -1, -1, 0, 0, 0}};
        for (int[] kinds : STATES) {
            for (int which = 0; which < 2; which++) {
                boolean[] independent = independentSets(kinds, which);
                for (int[] row : weights) {
                    CommonBases x = make(kinds);
                    for (int e = 0; e < SIX; e++) {
                        x.weight(e, row[e]);
                    }
                    int size = x.rank(which, ALL_SIX);
                    due("best(" + which + ") of " + Arrays.toString(kinds) + " with " + Arrays.toString(row),
                            x.best(which), bestOf(independent, size, row));
                }
            }
        }
    }

    private static int bestOf(boolean[] independent, int size, int[] weights) {
        int found = NONE;
        for (int set = 0; set <= ALL_SIX; set++) {
            if (independent[set] && Integer.bitCount(set) == size
                    && (found == NONE || isBetter(set, found, weights))) {
                found = set;
            }
        }
        return found;
    }

    private static boolean isBetter(int set, int other, int[] weights) {
        int sum = sumOf(set, weights);
        int otherSum = sumOf(other, weights);
        if (sum != otherSum) {
            return sum > otherSum;
        }
        int first = -1;
        for (int e = 0; e < SIX; e++) {
            if (((set ^ other) >> e & 1) != 0 && (first < 0 || weights[e] > weights[first])) {
                first = e;
            }
        }
        return (set >> first & 1) != 0;
    }

    private static int sumOf(int set, int[] weights) {
        int sum = 0;
        for (int e = 0; e < SIX; e++) {
            sum += (set >> e & 1) * weights[e];
        }
        return sum;
    }

    private static void bestRefusesWhich() {
        sentence("Promise 15: BAD when which is not 0 or 1");
        for (int which : NO_MATROIDS) {
            refused("best(" + which + ")", BAD, x -> x.best(which));
        }
    }

    private static void commonOfNoElements() {
        sentence("Promise 16: Of the common sets with k elements, k being 0");
        for (int[] kinds : STATES) {
            due("common(0)", make(kinds).common(0), 0);
        }
        for (int n = 1; n <= 10; n++) {
            due("common(0) of a new object", new CommonBases(n).common(0), 0);
            due("common(0) where all is independent", uniforms(n, 10, 10).common(0), 0);
        }
    }

    private static void commonOfAllElements() {
        sentence("Promise 16: Of the common sets with k elements, k being n");
        for (int n = 1; n <= 10; n++) {
            due("common(n) where all is independent", uniforms(n, 10, 10).common(n), (1 << n) - 1);
            due("common(n) but for matroid 0", uniforms(n, n - 1, 10).common(n), NONE);
            due("common(n) but for matroid 1", uniforms(n, 10, n - 1).common(n), NONE);
        }
    }

    private static void commonIsTheLeastNumber() {
        sentence("Promise 16: of several such, the one that is the least number");
        for (int w : new int[] {0, 1, 1000000, -1, -1000000}) {
            CommonBases x = uniforms(10, 10, 10);
            weighAll(x, 10, w);
            for (int k = 0; k <= 10; k++) {
                due("common(" + k + ") of equals", x.common(k), (1 << k) - 1);
            }
        }
        CommonBases x = uniforms(4, 2, 2);
        x.weight(0, 3);
        x.weight(1, 2);
        x.weight(2, 2);
        x.weight(3, 1);
        x.classes(0);
        x.cap(0, 0, 1);
        x.cap(0, 1, 1);
        x.part(0, 0, 1);
        x.part(0, 1, 1);
        due("0 and 2 are heavier than 1 and 2", x.common(2), 5);
        x.part(0, 3, 1);
        x.part(0, 0, 0);
        due("0 and 1 are heaviest", x.common(2), 3);
        x.part(0, 1, 0);
        due("0 and 3, no element of class 1 beside", x.common(2), 9);
        x.part(0, 2, 1);
        x.weight(0, 1);
        due("1 and 2 are heaviest", x.common(2), 6);
        x.weight(1, 1);
        x.weight(3, 2);
        due("0 and 2, of four that weigh the same", x.common(2), 5);
    }

    private static void commonOfTheLightest() {
        sentence("Promise 16: the one with the greatest weight, be it negative or as great as can be");
        for (int k = 1; k < 10; k++) {
            CommonBases x = uniforms(10, k, 10);
            for (int e = 0; e < 10; e++) {
                x.weight(e, -1000000 + e);
            }
            due("common(" + k + ") of negative weights", x.common(k), 1023 & ~((1 << 10 - k) - 1));
            for (int e = 0; e < 10; e++) {
                x.weight(e, 1000000 - e);
            }
            due("common(" + k + ") of great weights", x.common(k), (1 << k) - 1);
        }
    }

    private static void commonNone() {
        sentence("Promise 16: NONE when there is no common set with k elements");
        for (int k0 = 0; k0 <= 10; k0++) {
            for (int k1 = 0; k1 <= 10; k1++) {
                CommonBases x = uniforms(10, k0, k1);
                int most = Math.min(k0, k1);
                due("common of the largest size", x.common(most), (1 << most) - 1);
                due("common of one more", x.common(most + 1), NONE);
            }
        }
        CommonBases x = new CommonBases(2);
        x.classes(0);
        x.classes(1);
        x.cap(0, 0, 1);
        x.cap(1, 0, 1);
        x.part(0, 1, 1);
        x.part(1, 0, 1);
        due("one element for each matroid, but not the same", x.common(1), NONE);
    }

    private static void commonNoneWhenNegative() {
        sentence("Promise 16: NONE also when k is negative");
        for (int n = 1; n <= 10; n++) {
            for (int k : new int[] {-1, -2, -n, -32, -31, LOW, LOW + 1}) {
                due("common(" + k + ") of " + n, uniforms(n, 10, 10).common(k), NONE);
                due("common(" + k + ") of a new object", new CommonBases(n).common(k), NONE);
            }
        }
    }

    private static void commonNoneWhenMoreThanN() {
        sentence("Promise 16: NONE also when k is more than n");
        for (int n = 1; n <= 10; n++) {
            for (int k : new int[] {n + 1, n + 2, 11, 31, 32, 33, 1023, HIGH}) {
                due("common(" + k + ") of " + n, uniforms(n, 10, 10).common(k), NONE);
            }
        }
    }

    private static void weightOfEmptyAndFull() {
        sentence("Promise 17: The weight of a set, of nothing and of all");
        for (int n = 1; n <= 10; n++) {
            CommonBases x = new CommonBases(n);
            for (int w : new int[] {1000000, -1000000}) {
                weighAll(x, n, w);
                due("weightOf(0) of " + n, x.weightOf(0), 0);
                due("weightOf all " + n, x.weightOf((1 << n) - 1), n * w);
            }
        }
    }

    private static void weightOfNoSuchSet() {
        sentence("Promise 17: 0 when there is no such set");
        for (int n = 1; n <= 10; n++) {
            CommonBases x = new CommonBases(n);
            weighAll(x, n, 7);
            for (int set : noSets(n)) {
                if (set < 0 || set >= 1 << n) {
                    due("weightOf(" + set + ") of " + n, x.weightOf(set), 0);
                }
            }
        }
    }

    private static void weightOfMayLookLikeBad() {
        sentence("Promise 17: The weight of a set, be it the number of BAD or NONE");
        CommonBases x = new CommonBases(2);
        x.weight(0, -1);
        x.weight(1, -1);
        due("weightOf(1)", x.weightOf(1), -1);
        due("weightOf(3)", x.weightOf(3), -2);
    }

    private static void largestOf0AndN() {
        sentence("Promise 18: The number of elements of the largest common sets, from 0 to n");
        for (int n = 1; n <= 10; n++) {
            for (int k = 0; k <= 10; k++) {
                int most = Math.min(k, n);
                due("largest() by matroid 0", uniforms(n, k, 10).largest(), most);
                due("largest() by matroid 1", uniforms(n, 10, k).largest(), most);
                due("largest() with an empty matroid", uniforms(n, 0, k).largest(), 0);
            }
        }
        CommonBases x = uniforms(10, 10, 10);
        weighAll(x, 10, -1000000);
        due("largest(), though all weights are negative", x.largest(), 10);
    }

    private static void witnessOfEmptyAndFull() {
        sentence("Promise 19: Of all sets A, nothing and all among them");
        for (int n = 1; n <= 10; n++) {
            int all = (1 << n) - 1;
            due("matroid 0 empty", uniforms(n, 0, n).witness(), all);
            due("matroid 1 empty", uniforms(n, n, 0).witness(), 0);
            due("both empty", uniforms(n, 0, 0).witness(), 0);
            due("all independent in both", uniforms(n, n, n).witness(), 0);
            due("matroid 0 the lesser", uniforms(n, n - 1, n).witness(), all);
            due("matroid 1 the lesser", uniforms(n, n, n - 1).witness(), 0);
        }
    }

    /** The rank in matroid 0 of every set, then that in matroid 1. */
    private static int[][] ranksOf(int[] kinds) {
        CommonBases x = make(kinds);
        int[][] ranks = new int[2][ALL_SIX + 1];
        for (int set = 0; set <= ALL_SIX; set++) {
            ranks[0][set] = x.rank(0, set);
            ranks[1][set] = x.rank(1, set);
        }
        return ranks;
    }

    private static int commonSum(int[][] ranks, int set) {
        return ranks[0][set] + ranks[1][ALL_SIX - set];
    }

    private static int jointSum(int[][] ranks, int set) {
        return ranks[0][set] + ranks[1][set] + Integer.bitCount(ALL_SIX - set);
    }

    private static int[][] allPairsOfKinds() {
        int[][] pairs = new int[16][];
        for (int i = 0; i < 16; i++) {
            pairs[i] = new int[] {i / 4, i % 4};
        }
        return pairs;
    }

    private static void witnessIsASubsetOfAll() {
        sentence("Promise 19: the one that is a subset of all of them");
        for (int[] kinds : allPairsOfKinds()) {
            int[][] ranks = ranksOf(kinds);
            int least = HIGH;
            int inAll = ALL_SIX;
            for (int set = 0; set <= ALL_SIX; set++) {
                int sum = commonSum(ranks, set);
                inAll = sum < least ? set : sum == least ? inAll & set : inAll;
                least = Math.min(least, sum);
            }
            due("witness() of " + Arrays.toString(kinds), make(kinds).witness(), inAll);
        }
    }

    private static void witnessSumIsLargest() {
        sentence("Promise 19: (There is always one; the sum for it is largest().)");
        for (int[] kinds : allPairsOfKinds()) {
            CommonBases x = make(kinds);
            due("the sum for witness() of " + Arrays.toString(kinds),
                    commonSum(ranksOf(kinds), x.witness()), x.largest());
        }
    }

    private static void jointOf0AndN() {
        sentence("Promise 20: The number of elements of the largest joints, from 0 to n");
        for (int n = 1; n <= 10; n++) {
            for (int k = 0; k <= 10; k++) {
                due("joint() by matroid 0", uniforms(n, k, 0).joint(), Math.min(n, k));
                due("joint() by matroid 1", uniforms(n, 0, k).joint(), Math.min(n, k));
                due("joint() by both", uniforms(n, k, k).joint(), Math.min(n, 2 * k));
                due("joint() where all is independent", uniforms(n, k, 10).joint(), n);
            }
        }
    }

    private static void jointIsTheLargestUnion() {
        sentence("Promise 20: joints, each the union of a set independent in matroid 0 and one in matroid 1");
        for (int[] kinds : allPairsOfKinds()) {
            boolean[] in0 = independentSets(kinds, 0);
            boolean[] in1 = independentSets(kinds, 1);
            int most = 0;
            for (int one = 0; one <= ALL_SIX; one++) {
                for (int other = 0; other <= ALL_SIX; other++) {
                    if (in0[one] && in1[other]) {
                        most = Math.max(most, Integer.bitCount(one | other));
                    }
                }
            }
            due("joint() of " + Arrays.toString(kinds), make(kinds).joint(), most);
        }
    }

    private static void jointWitnessOfEmptyAndFull() {
        sentence("Promise 21: Of all sets A, nothing and all among them");
        for (int n = 1; n <= 10; n++) {
            int all = (1 << n) - 1;
            due("both empty", uniforms(n, 0, 0).jointWitness(), all);
            due("all independent in both", uniforms(n, n, n).jointWitness(), 0);
            due("all independent in matroid 0", uniforms(n, n, 0).jointWitness(), 0);
            due("all independent in matroid 1", uniforms(n, 0, n).jointWitness(), 0);
            due("just enough by both", uniforms(n, n - 1, 1).jointWitness(), 0);
            due("one too few by matroid 0", uniforms(n, n - 1, 0).jointWitness(), all);
            due("one too few by matroid 1", uniforms(n, 0, n - 1).jointWitness(), all);
        }
    }

    private static void jointWitnessIsASubsetOfAll() {
        sentence("Promise 21: the one that is a subset of all of them");
        for (int[] kinds : allPairsOfKinds()) {
            int[][] ranks = ranksOf(kinds);
            int least = HIGH;
            int inAll = ALL_SIX;
            for (int set = 0; set <= ALL_SIX; set++) {
                int sum = jointSum(ranks, set);
                inAll = sum < least ? set : sum == least ? inAll & set : inAll;
                least = Math.min(least, sum);
            }
            due("jointWitness() of " + Arrays.toString(kinds), make(kinds).jointWitness(), inAll);
        }
    }

    private static void jointWitnessSumIsJoint() {
        sentence("Promise 21: (There is always one; the sum for it is joint().)");
        for (int[] kinds : allPairsOfKinds()) {
            CommonBases x = make(kinds);
            due("the sum for jointWitness() of " + Arrays.toString(kinds),
                    jointSum(ranksOf(kinds), x.jointWitness()), x.joint());
        }
    }
}
