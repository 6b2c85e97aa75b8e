/** Each promise of the document by itself: ordinary inputs, the edges it names, and wrong inputs. */
public final class CommonBasesPromises {
    private static final int BAD = CommonBases.BAD;
    private static final int NONE = CommonBases.NONE;
    private static final int[] NO_MATROIDS = {-1, 2, 3, 32, Integer.MIN_VALUE, Integer.MAX_VALUE};
    private static final int[] FAR = {Integer.MIN_VALUE, Integer.MAX_VALUE};

    private static int wrong = 0;
    private static int promise = 0;

    private static void due(String call, int got, int want) {
        if (got != want) {
            wrong++;
            System.out.println("promise " + promise + ": " + call + " answered " + got + ", due is " + want);
        }
    }

    private static void yes(String call, boolean got) {
        due(call, got ? 1 : 0, 1);
    }

    private static void no(String call, boolean got) {
        due(call, got ? 1 : 0, 0);
    }

    public static void main(String[] args) {
        newObject();
        uniform();
        graphic();
        edge();
        classes();
        part();
        cap();
        linear();
        entry();
        weight();
        independent();
        rank();
        span();
        circuit();
        best();
        common();
        weightOf();
        largest();
        witness();
        joint();
        jointWitness();
        System.out.println(wrong == 0 ? "all answers are as due" : wrong + " answers are not as due");
        if (wrong != 0) {
            System.exit(1);
        }
    }

    /** How many elements an object has, told by which sets there are. */
    private static void dueElements(String call, CommonBases x, int n) {
        due(call + ", its whole ground set", x.independent(0, (1 << n) - 1), 0);
        due(call + ", a set beyond it", x.independent(0, 1 << n), BAD);
        yes(call + ", its last element", x.weight(n - 1, 0));
        no(call + ", an element beyond it", x.weight(n, 0));
    }

    /** Answers that a refused call could have changed, in one number; 64 sets, to keep within 512 calls. */
    private static long stateOf(CommonBases x, int n) {
        int all = (1 << n) - 1;
        long sum = 0;
        for (int i = 0; i < 64 && i <= all; i++) {
            int set = all - i * 17 & all;
            sum = sum * 31 + x.rank(0, set);
            sum = sum * 31 + x.rank(1, set);
            sum = sum * 31 + x.weightOf(set);
        }
        return sum;
    }

    private static void same(String calls, CommonBases x, int n, long before) {
        due(calls + " left the state", stateOf(x, n) == before ? 1 : 0, 1);
    }

    private static void newObject() {
        promise = 1;
        for (int n = 1; n <= 10; n++) {
            dueElements("new CommonBases(" + n + ")", new CommonBases(n), n);
        }
        for (int n : new int[] {0, -1, 11, 12, 32, 1000, Integer.MIN_VALUE, Integer.MAX_VALUE}) {
            dueElements("new CommonBases(" + n + ")", new CommonBases(n), 8);
        }
        CommonBases x = new CommonBases(4);
        for (int which = 0; which < 2; which++) {
            due("rank of all", x.rank(which, 15), 0);
            due("independent(which, 0)", x.independent(which, 0), 1);
            due("independent(which, 1)", x.independent(which, 1), 0);
            no("edge at first", x.edge(which, 0, 0, 1));
            no("part at first", x.part(which, 0, 1));
            no("cap at first", x.cap(which, 0, 1));
            no("entry at first", x.entry(which, 0, 0, 1));
        }
        due("weightOf at first", x.weightOf(15), 0);
    }

    private static void uniform() {
        promise = 2;
        CommonBases x = new CommonBases(10);
        for (int k = 0; k <= 10; k++) {
            yes("uniform(0, " + k + ")", x.uniform(0, k));
            due("rank after uniform(0, " + k + ")", x.rank(0, 1023), k);
            due("rank of the other matroid", x.rank(1, 1023), 0);
        }
        yes("uniform(1, 4)", x.uniform(1, 4));
        due("rank(1, 1023)", x.rank(1, 1023), 4);
        yes("uniform(0, 6)", x.uniform(0, 6));
        long before = stateOf(x, 10);
        for (int which : NO_MATROIDS) {
            no("uniform(" + which + ", 3)", x.uniform(which, 3));
        }
        for (int k : new int[] {-1, 11, FAR[0], FAR[1]}) {
            no("uniform(0, " + k + ")", x.uniform(0, k));
            no("uniform(1, " + k + ")", x.uniform(1, k));
        }
        same("refused calls of uniform", x, 10, before);
        x.graphic(0);
        x.edge(0, 0, 1, 2);
        no("uniform(0, 11) when GRAPHIC", x.uniform(0, 11));
        yes("still GRAPHIC", x.edge(0, 1, 2, 3));
        yes("uniform(0, 5) when GRAPHIC", x.uniform(0, 5));
        no("no longer GRAPHIC", x.edge(0, 1, 2, 3));
        due("rank(0, 127) when UNIFORM again", x.rank(0, 127), 5);
        CommonBases small = new CommonBases(2);
        yes("uniform(0, 10) of two elements", small.uniform(0, 10));
        due("rank(0, 3)", small.rank(0, 3), 2);
    }

    private static void graphic() {
        promise = 3;
        CommonBases x = new CommonBases(5);
        x.uniform(0, 5);
        x.uniform(1, 5);
        yes("graphic(0)", x.graphic(0));
        due("rank of all", x.rank(0, 31), 0);
        due("rank in the other", x.rank(1, 31), 5);
        for (int e = 0; e < 5; e++) {
            due("independent(0, " + (1 << e) + ")", x.independent(0, 1 << e), 0);
            x.edge(0, e, e, e + 1);
        }
        due("rank of a path", x.rank(0, 31), 5);
        yes("graphic(0) again", x.graphic(0));
        due("rank of all, once more", x.rank(0, 31), 0);
        x.edge(0, 0, 0, 1);
        due("the others are rings still", x.rank(0, 31), 1);
        x.linear(0, 3);
        yes("graphic(0) after LINEAR", x.graphic(0));
        due("rank after LINEAR", x.rank(0, 31), 0);
        yes("graphic(1)", x.graphic(1));
        due("rank(1, 31)", x.rank(1, 31), 0);
        x.edge(1, 3, 6, 7);
        long before = stateOf(x, 5);
        for (int which : NO_MATROIDS) {
            no("graphic(" + which + ")", x.graphic(which));
        }
        same("refused calls of graphic", x, 5, before);
    }

    private static void edge() {
        promise = 4;
        CommonBases x = new CommonBases(4);
        x.graphic(1);
        yes("edge(1, 0, 0, 7)", x.edge(1, 0, 0, 7));
        yes("edge(1, 1, 7, 0)", x.edge(1, 1, 7, 0));
        yes("edge(1, 2, 3, 3)", x.edge(1, 2, 3, 3));
        yes("edge(1, 3, 7, 4)", x.edge(1, 3, 7, 4));
        due("two edges between the same two vertices", x.independent(1, 3), 0);
        due("an edge from a vertex to itself", x.independent(1, 4), 0);
        due("a path", x.independent(1, 9), 1);
        due("rank(1, 15)", x.rank(1, 15), 2);
        yes("edge(1, 1, 0, 4)", x.edge(1, 1, 0, 4));
        due("a ring of three", x.independent(1, 11), 0);
        due("two of the ring", x.independent(1, 10), 1);
        yes("edge(1, 1, 5, 6)", x.edge(1, 1, 5, 6));
        due("two trees apart", x.independent(1, 11), 1);
        long before = stateOf(x, 4);
        for (int which : NO_MATROIDS) {
            no("edge(" + which + ", 0, 1, 2)", x.edge(which, 0, 1, 2));
        }
        for (int e : new int[] {-1, 4, 10, FAR[0], FAR[1]}) {
            no("edge(1, " + e + ", 1, 2)", x.edge(1, e, 1, 2));
        }
        for (int v : new int[] {-1, 8, FAR[0], FAR[1]}) {
            no("edge(1, 0, " + v + ", 2)", x.edge(1, 0, v, 2));
            no("edge(1, 0, 2, " + v + ")", x.edge(1, 0, 2, v));
        }
        no("edge of a UNIFORM", x.edge(0, 0, 1, 2));
        x.classes(0);
        no("edge of one of CLASSES", x.edge(0, 0, 1, 2));
        x.linear(0, 2);
        no("edge of a LINEAR", x.edge(0, 0, 1, 2));
        same("refused calls of edge", x, 4, before);
    }

    private static void classes() {
        promise = 5;
        CommonBases x = new CommonBases(4);
        x.uniform(0, 4);
        x.uniform(1, 3);
        yes("classes(0)", x.classes(0));
        due("every cap is 0", x.rank(0, 15), 0);
        due("rank in the other", x.rank(1, 15), 3);
        x.cap(0, 1, 10);
        x.cap(0, 2, 10);
        x.cap(0, 3, 10);
        due("no element in classes 1 to 3", x.rank(0, 15), 0);
        x.cap(0, 0, 10);
        due("all elements in class 0", x.rank(0, 15), 4);
        x.part(0, 2, 3);
        yes("classes(0) again", x.classes(0));
        due("every cap is 0 again", x.rank(0, 15), 0);
        x.cap(0, 3, 4);
        due("every element in class 0 again", x.rank(0, 15), 0);
        yes("classes(1)", x.classes(1));
        x.cap(1, 0, 2);
        due("rank(1, 15)", x.rank(1, 15), 2);
        long before = stateOf(x, 4);
        for (int which : NO_MATROIDS) {
            no("classes(" + which + ")", x.classes(which));
        }
        same("refused calls of classes", x, 4, before);
    }

    private static void part() {
        promise = 6;
        CommonBases x = new CommonBases(6);
        x.classes(0);
        for (int c = 0; c < 4; c++) {
            x.cap(0, c, 1);
        }
        due("one class", x.rank(0, 63), 1);
        for (int c = 1; c < 4; c++) {
            yes("part(0, " + c + ", " + c + ")", x.part(0, c, c));
            due("rank after part", x.rank(0, 63), c + 1);
        }
        due("one of each", x.independent(0, 15), 1);
        due("two of class 0", x.independent(0, 17), 0);
        yes("part(0, 5, 3)", x.part(0, 5, 3));
        due("two of class 3", x.independent(0, 40), 0);
        yes("part(0, 5, 0)", x.part(0, 5, 0));
        due("one of class 3", x.independent(0, 40), 1);
        long before = stateOf(x, 6);
        for (int which : NO_MATROIDS) {
            no("part(" + which + ", 0, 1)", x.part(which, 0, 1));
        }
        for (int e : new int[] {-1, 6, FAR[0], FAR[1]}) {
            no("part(0, " + e + ", 1)", x.part(0, e, 1));
        }
        for (int c : new int[] {-1, 4, FAR[0], FAR[1]}) {
            no("part(0, 0, " + c + ")", x.part(0, 0, c));
        }
        no("part of a UNIFORM", x.part(1, 0, 1));
        x.graphic(1);
        no("part of a GRAPHIC", x.part(1, 0, 1));
        x.linear(1, 5);
        no("part of a LINEAR", x.part(1, 0, 1));
        same("refused calls of part", x, 6, before);
    }

    private static void cap() {
        promise = 7;
        CommonBases x = new CommonBases(10);
        x.classes(1);
        for (int k = 0; k <= 10; k++) {
            yes("cap(1, 0, " + k + ")", x.cap(1, 0, k));
            due("rank after cap(1, 0, " + k + ")", x.rank(1, 1023), k);
        }
        yes("cap(1, 0, 2)", x.cap(1, 0, 2));
        yes("cap(1, 3, 10)", x.cap(1, 3, 10));
        x.part(1, 9, 3);
        due("two of class 0, one of class 3", x.independent(1, 515), 1);
        due("three of class 0", x.independent(1, 7), 0);
        due("rank(1, 1023)", x.rank(1, 1023), 3);
        long before = stateOf(x, 10);
        for (int which : NO_MATROIDS) {
            no("cap(" + which + ", 0, 1)", x.cap(which, 0, 1));
        }
        for (int c : new int[] {-1, 4, FAR[0], FAR[1]}) {
            no("cap(1, " + c + ", 1)", x.cap(1, c, 1));
        }
        for (int k : new int[] {-1, 11, FAR[0], FAR[1]}) {
            no("cap(1, 0, " + k + ")", x.cap(1, 0, k));
        }
        no("cap of a UNIFORM", x.cap(0, 0, 1));
        x.graphic(0);
        no("cap of a GRAPHIC", x.cap(0, 0, 1));
        x.linear(0, 7);
        no("cap of a LINEAR", x.cap(0, 0, 1));
        same("refused calls of cap", x, 10, before);
    }

    private static void linear() {
        promise = 8;
        CommonBases x = new CommonBases(3);
        x.uniform(0, 3);
        x.uniform(1, 2);
        for (int p : new int[] {2, 3, 5, 7}) {
            yes("linear(0, " + p + ")", x.linear(0, p));
            due("all columns 0", x.rank(0, 7), 0);
            x.entry(0, 0, 0, p);
            due("p is 0 modulo p", x.rank(0, 7), 0);
            x.entry(0, 0, 3, 1);
            x.entry(0, 1, 3, p + 1);
            due("p + 1 is 1 modulo p", x.rank(0, 3), 1);
            x.entry(0, 2, 1, p - 1);
            due("two rows", x.rank(0, 7), 2);
        }
        due("rank in the other", x.rank(1, 7), 2);
        yes("linear(0, 7) again", x.linear(0, 7));
        due("all columns 0 again", x.rank(0, 7), 0);
        x.entry(0, 0, 0, 1);
        yes("linear(1, 2)", x.linear(1, 2));
        x.entry(1, 2, 2, 1);
        long before = stateOf(x, 3);
        for (int which : NO_MATROIDS) {
            no("linear(" + which + ", 2)", x.linear(which, 2));
        }
        for (int p : new int[] {-7, -2, -1, 0, 1, 4, 6, 8, 9, 10, 11, 13, FAR[0], FAR[1]}) {
            no("linear(0, " + p + ")", x.linear(0, p));
        }
        same("refused calls of linear", x, 3, before);
        x.entry(0, 1, 0, 7);
        due("modulo 7 still", x.independent(0, 2), 0);
    }

    private static void entry() {
        promise = 9;
        CommonBases x = new CommonBases(6);
        x.linear(0, 5);
        for (int e = 0; e < 4; e++) {
            yes("entry(0, " + e + ", " + e + ", 1)", x.entry(0, e, e, 1));
            due("rank after entry", x.rank(0, 63), e + 1);
        }
        for (int row = 0; row < 4; row++) {
            x.entry(0, 4, row, row + 1);
        }
        due("five columns of four numbers", x.independent(0, 31), 0);
        due("four of them", x.independent(0, 30), 1);
        due("all five are needed", x.circuit(0, 15, 4), 31);
        yes("entry(0, 5, 0, -4)", x.entry(0, 5, 0, -4));
        yes("entry(0, 5, 1, -3)", x.entry(0, 5, 1, -3));
        yes("entry(0, 5, 2, -2147483645)", x.entry(0, 5, 2, -2147483645));
        yes("entry(0, 5, 3, 2147483644)", x.entry(0, 5, 3, 2147483644));
        due("the same column modulo 5 but for number 2", x.rank(0, 48), 2);
        yes("entry(0, 5, 2, -2147483647)", x.entry(0, 5, 2, -2147483647));
        due("the same column modulo 5", x.rank(0, 48), 1);
        yes("entry(0, 5, 0, 0)", x.entry(0, 5, 0, 0));
        due("another column", x.rank(0, 48), 2);
        modulusMatters();
        long before = stateOf(x, 6);
        for (int which : NO_MATROIDS) {
            no("entry(" + which + ", 0, 0, 3)", x.entry(which, 0, 0, 3));
        }
        for (int e : new int[] {-1, 6, FAR[0], FAR[1]}) {
            no("entry(0, " + e + ", 0, 3)", x.entry(0, e, 0, 3));
        }
        for (int row : new int[] {-1, 4, FAR[0], FAR[1]}) {
            no("entry(0, 0, " + row + ", 3)", x.entry(0, 0, row, 3));
        }
        no("entry of a UNIFORM", x.entry(1, 0, 0, 1));
        x.graphic(1);
        no("entry of a GRAPHIC", x.entry(1, 0, 0, 1));
        x.classes(1);
        no("entry of one of CLASSES", x.entry(1, 0, 0, 1));
        same("refused calls of entry", x, 6, before);
    }

    /** (1, 1, 0), (1, 0, 1), (0, 1, 1): their determinant is -2, so modulo 2 alone it is 0. */
    private static void modulusMatters() {
        for (int p : new int[] {2, 3, 5, 7}) {
            CommonBases x = new CommonBases(3);
            x.linear(0, p);
            for (int e = 0; e < 3; e++) {
                for (int row = 0; row < 3; row++) {
                    x.entry(0, e, row, e + row == 2 ? 0 : 1);
                }
            }
            due("rank modulo " + p, x.rank(0, 7), p == 2 ? 2 : 3);
        }
    }

    private static void weight() {
        promise = 10;
        CommonBases x = new CommonBases(3);
        yes("weight(0, 1000000)", x.weight(0, 1000000));
        yes("weight(1, -1000000)", x.weight(1, -1000000));
        yes("weight(2, 17)", x.weight(2, 17));
        due("weightOf(1)", x.weightOf(1), 1000000);
        due("weightOf(2)", x.weightOf(2), -1000000);
        due("weightOf(7)", x.weightOf(7), 17);
        yes("weight(2, -3)", x.weight(2, -3));
        due("weightOf(4)", x.weightOf(4), -3);
        long before = stateOf(x, 3);
        for (int e : new int[] {-1, 3, 8, FAR[0], FAR[1]}) {
            no("weight(" + e + ", 1)", x.weight(e, 1));
        }
        for (int w : new int[] {-1000001, 1000001, FAR[0], FAR[1]}) {
            no("weight(0, " + w + ")", x.weight(0, w));
        }
        same("refused calls of weight", x, 3, before);
        x.uniform(0, 2);
        x.graphic(0);
        x.linear(1, 3);
        due("kinds leave weights", x.weightOf(7), -3);
    }

    private static void independent() {
        promise = 11;
        CommonBases x = new CommonBases(4);
        x.uniform(0, 2);
        for (int set = 0; set < 16; set++) {
            due("independent(0, " + set + ")", x.independent(0, set), Integer.bitCount(set) <= 2 ? 1 : 0);
            due("independent(1, " + set + ")", x.independent(1, set), set == 0 ? 1 : 0);
        }
        for (int which : NO_MATROIDS) {
            due("independent(" + which + ", 0)", x.independent(which, 0), BAD);
        }
        for (int set : new int[] {-1, 16, 17, FAR[0], FAR[1]}) {
            due("independent(0, " + set + ")", x.independent(0, set), BAD);
        }
    }

    /** A ring of the vertices 0 to 3 in the elements 0 to 3, a chord 4, a ring of one vertex 5. */
    private static CommonBases ringWithChord() {
        CommonBases x = new CommonBases(6);
        x.graphic(0);
        for (int e = 0; e < 4; e++) {
            x.edge(0, e, e, (e + 1) % 4);
        }
        x.edge(0, 4, 0, 2);
        x.edge(0, 5, 7, 7);
        return x;
    }

    private static void rank() {
        promise = 12;
        CommonBases x = ringWithChord();
        due("rank(0, 0)", x.rank(0, 0), 0);
        due("rank(0, 3)", x.rank(0, 3), 2);
        due("rank(0, 19)", x.rank(0, 19), 2);
        due("rank(0, 15)", x.rank(0, 15), 3);
        due("rank(0, 32)", x.rank(0, 32), 0);
        due("rank(0, 63)", x.rank(0, 63), 3);
        for (int which : NO_MATROIDS) {
            due("rank(" + which + ", 0)", x.rank(which, 0), BAD);
        }
        for (int set : new int[] {-1, 64, FAR[0], FAR[1]}) {
            due("rank(0, " + set + ")", x.rank(0, set), BAD);
        }
    }

    private static void span() {
        promise = 13;
        CommonBases x = ringWithChord();
        due("span of nothing", x.span(0, 0), 32);
        due("span(0, 1)", x.span(0, 1), 33);
        due("span(0, 3)", x.span(0, 3), 51);
        due("span(0, 17)", x.span(0, 17), 51);
        due("span(0, 5)", x.span(0, 5), 37);
        due("span(0, 7)", x.span(0, 7), 63);
        due("span(0, 63)", x.span(0, 63), 63);
        due("span in UNIFORM with 0", x.span(1, 0), 63);
        x.uniform(1, 6);
        due("span of a free set", x.span(1, 9), 9);
        for (int which : NO_MATROIDS) {
            due("span(" + which + ", 0)", x.span(which, 0), BAD);
        }
        for (int set : new int[] {-1, 64, FAR[0], FAR[1]}) {
            due("span(0, " + set + ")", x.span(0, set), BAD);
        }
    }

    private static void circuit() {
        promise = 14;
        CommonBases x = ringWithChord();
        due("a ring of all", x.circuit(0, 7, 3), 15);
        due("a ring of some", x.circuit(0, 7, 4), 19);
        due("a ring on the other side", x.circuit(0, 13, 4), 28);
        due("an edge that is itself a ring", x.circuit(0, 7, 5), 32);
        due("the same with nothing", x.circuit(0, 0, 5), 32);
        due("independent with e added", x.circuit(0, 3, 2), 0);
        due("e in the set", x.circuit(0, 7, 1), 0);
        due("a set that is not independent", x.circuit(0, 19, 3), 0);
        due("a set that is not independent, with e in it", x.circuit(0, 32, 5), 0);
        due("UNIFORM with 0", x.circuit(1, 0, 0), 1);
        x.classes(1);
        x.cap(1, 0, 2);
        x.cap(1, 1, 1);
        x.part(1, 2, 1);
        due("of one class alone", x.circuit(1, 7, 3), 11);
        for (int which : NO_MATROIDS) {
            due("circuit(" + which + ", 7, 3)", x.circuit(which, 7, 3), BAD);
        }
        for (int set : new int[] {-1, 64, FAR[0], FAR[1]}) {
            due("circuit(0, " + set + ", 3)", x.circuit(0, set, 3), BAD);
        }
        for (int e : new int[] {-1, 6, 10, FAR[0], FAR[1]}) {
            due("circuit(0, 7, " + e + ")", x.circuit(0, 7, e), BAD);
        }
    }

    private static void best() {
        promise = 15;
        CommonBases x = ringWithChord();
        due("equal weights, lesser numbers", x.best(0), 7);
        x.weight(4, 5);
        due("the chord first", x.best(0), 21);
        x.weight(3, 5);
        due("3 and 4 first, then 0", x.best(0), 25);
        for (int e = 0; e < 6; e++) {
            x.weight(e, -10 + (e == 1 ? 1 : 0));
        }
        due("a basis though all weights are negative", x.best(0), 7);
        x.weight(0, -1000000);
        due("the lightest is left out", x.best(0), 14);
        due("UNIFORM with 0", x.best(1), 0);
        x.uniform(1, 2);
        due("best(1)", x.best(1), 6);
        x.uniform(1, 10);
        due("every element, the lightest too", x.best(1), 63);
        for (int which : NO_MATROIDS) {
            due("best(" + which + ")", x.best(which), BAD);
        }
    }

    private static void common() {
        promise = 16;
        CommonBases x = new CommonBases(4);
        x.uniform(0, 2);
        x.classes(1);
        x.cap(1, 0, 1);
        x.cap(1, 1, 1);
        x.part(1, 2, 1);
        x.part(1, 3, 1);
        due("common(0)", x.common(0), 0);
        due("the least number", x.common(1), 1);
        due("the least number of two elements", x.common(2), 5);
        x.weight(0, -4);
        x.weight(1, -5);
        x.weight(2, -5);
        x.weight(3, -4);
        due("greatest though negative", x.common(1), 1);
        due("0 and 3", x.common(2), 9);
        x.weight(1, -4);
        due("0 and 3 are less than 1 and 3", x.common(2), 9);
        x.weight(1, -3);
        due("1 and 3", x.common(2), 10);
        for (int k : new int[] {3, 4, 5, 10, -1, -2, FAR[0], FAR[1]}) {
            due("common(" + k + ")", x.common(k), NONE);
        }
        leastNumberIsNotFirstInOrder();
        x.uniform(0, 4);
        x.uniform(1, 10);
        due("all elements", x.common(4), 15);
        due("more than all elements", x.common(5), NONE);
    }

    /** {2, 3} and {0, 4} weigh the same: THE ORDER would say 17, the least number says 12. */
    private static void leastNumberIsNotFirstInOrder() {
        CommonBases x = new CommonBases(5);
        x.graphic(0);
        x.edge(0, 0, 0, 1);
        x.edge(0, 4, 1, 2);
        x.edge(0, 2, 0, 1);
        x.edge(0, 3, 1, 2);
        x.weight(0, 5);
        x.weight(4, 1);
        x.weight(2, 3);
        x.weight(3, 3);
        x.classes(1);
        x.cap(1, 0, 1);
        x.cap(1, 1, 1);
        x.part(1, 0, 1);
        x.part(1, 3, 1);
        due("common(2)", x.common(2), 12);
    }

    private static void weightOf() {
        promise = 17;
        CommonBases x = new CommonBases(10);
        for (int e = 0; e < 10; e++) {
            x.weight(e, 1000000);
        }
        due("weightOf(1023)", x.weightOf(1023), 10000000);
        due("weightOf(0)", x.weightOf(0), 0);
        for (int e = 0; e < 10; e++) {
            x.weight(e, -1000000 + e);
        }
        due("weightOf(1023)", x.weightOf(1023), -9999955);
        due("weightOf(513)", x.weightOf(513), -1999991);
        for (int set : new int[] {-1, 1024, 1025, FAR[0], FAR[1]}) {
            due("weightOf(" + set + ")", x.weightOf(set), 0);
        }
    }

    /** Both matroids of CLASSES: a matching of four things to four places, of which two share one. */
    private static CommonBases matching() {
        CommonBases x = new CommonBases(7);
        int[] thing = {0, 0, 1, 1, 2, 3, 3};
        int[] place = {0, 1, 0, 1, 1, 2, 3};
        x.classes(0);
        x.classes(1);
        for (int c = 0; c < 4; c++) {
            x.cap(0, c, 1);
            x.cap(1, c, 1);
        }
        for (int e = 0; e < 7; e++) {
            x.part(0, e, thing[e]);
            x.part(1, e, place[e]);
        }
        return x;
    }

    private static void largest() {
        promise = 18;
        CommonBases x = new CommonBases(5);
        due("nothing is independent", x.largest(), 0);
        x.uniform(0, 4);
        due("nothing is independent in matroid 1", x.largest(), 0);
        x.uniform(1, 3);
        due("the lesser of two", x.largest(), 3);
        x.uniform(1, 10);
        due("the lesser of two, of matroid 0", x.largest(), 4);
        x.uniform(0, 10);
        due("all elements", x.largest(), 5);
        due("a matching", matching().largest(), 3);
    }

    private static void witness() {
        promise = 19;
        CommonBases x = new CommonBases(3);
        due("the empty set, though all sets are as good", x.witness(), 0);
        x.uniform(1, 3);
        due("all, since matroid 1 is free", x.witness(), 7);
        x.uniform(1, 1);
        due("all, since nothing is independent in matroid 0", x.witness(), 7);
        x.uniform(0, 1);
        due("equal sums, the lesser set", x.witness(), 0);
        x.uniform(0, 3);
        due("matroid 0 is free", x.witness(), 0);
        CommonBases m = matching();
        due("things 3 alone, places 0 and 1 for the rest", m.witness(), 96);
        x.classes(0);
        x.cap(0, 1, 1);
        x.part(0, 1, 1);
        x.uniform(1, 3);
        due("a class with cap 0, and one element", x.witness(), 5);
    }

    private static void joint() {
        promise = 20;
        CommonBases x = new CommonBases(5);
        due("nothing is independent", x.joint(), 0);
        x.uniform(0, 2);
        due("of matroid 0 alone", x.joint(), 2);
        x.uniform(1, 1);
        due("the sum of two", x.joint(), 3);
        x.uniform(1, 3);
        due("all elements", x.joint(), 5);
        x.uniform(1, 10);
        due("not more than all elements", x.joint(), 5);
        x.classes(0);
        x.cap(0, 0, 3);
        x.part(0, 4, 1);
        x.linear(1, 2);
        x.entry(1, 0, 0, 1);
        x.entry(1, 1, 0, 1);
        due("three of class 0, and one more by matroid 1", x.joint(), 4);
        due("a matching", matching().joint(), 7);
    }

    private static void jointWitness() {
        promise = 21;
        CommonBases x = new CommonBases(5);
        due("nothing is independent", x.jointWitness(), 31);
        x.uniform(0, 2);
        x.uniform(1, 2);
        due("one too many", x.jointWitness(), 31);
        x.uniform(1, 3);
        due("just enough, so the least set", x.jointWitness(), 0);
        x.classes(0);
        x.cap(0, 0, 3);
        x.part(0, 4, 1);
        x.linear(1, 2);
        x.entry(1, 0, 0, 1);
        x.entry(1, 1, 0, 1);
        due("the element that is in neither", x.jointWitness(), 16);
        x.cap(0, 0, 1);
        due("class 0 is too full as well", x.jointWitness(), 31);
        x.entry(1, 2, 1, 1);
        x.entry(1, 3, 2, 1);
        x.entry(1, 3, 0, 1);
        due("class 0 is just enough", x.jointWitness(), 16);
        CommonBases parallel = new CommonBases(4);
        parallel.graphic(0);
        parallel.graphic(1);
        for (int e = 0; e < 4; e++) {
            parallel.edge(0, e, 0, e == 0 ? 1 : 2);
            parallel.edge(1, e, 0, e == 0 ? 1 : 2);
        }
        due("three edges side by side twice", parallel.jointWitness(), 14);
    }
}
