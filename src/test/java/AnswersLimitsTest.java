/** What the terms say of all calls: which answer is ahead of which, and that what is refused changes nothing. */
public final class AnswersLimitsTest {
    private static final Limits L = new Limits("AnswersLimitsTest");
    private static final int BAD = KeyTrees.BAD;
    private static final int NOT = KeyTrees.NOT;
    private static final int FULL = KeyTrees.FULL;
    private static final int NONE = KeyTrees.NONE;
    private static final int NULL = KeyTrees.NULL;
    private static final int CAST = KeyTrees.CAST;
    private static final int INDEX = KeyTrees.INDEX;
    private static final int SIZE = KeyTrees.SIZE;

    private AnswersLimitsTest() {
    }

    public static void main(String[] args) {
        numbers();
        badAheadOfAll();
        theFirstNamed();
        whatTheMachineFinds();
        refusedChangesNothing();
        refusedByAFullBook();
        setsAreBits();
        L.end();
    }

    private static void numbers() {
        L.sentence("Terms", "BAD -1 (a number is not as told, there is no such thing), NOT -2 (as told), FULL -3,"
            + " NONE -4 (as told), CAST -12 (of SHEETS another LANE); what the machine finds: NULL -11, INDEX -13,"
            + " SIZE -14");
        int[] answers = {BAD, NOT, FULL, NONE, NULL, CAST, INDEX, SIZE};
        int[] due = {-1, -2, -3, -4, -11, -12, -13, -14};
        for (int n = 0; n < due.length; n++) L.is("answer " + n, answers[n], due[n]);
        KeyTrees x = new KeyTrees();
        Trees.rich(x);
        int[] given = {x.come(16), x.leave(1), x.member(1, 0), x.drop(3), x.item(0, 0, 0, 0), x.item(0, 1, 3, 0),
            x.sheet(0, 0, -1)};
        int[] dueOfCalls = {-1, -2, -4, -11, -12, -13, -14};
        for (int n = 0; n < given.length; n++) L.is("given " + n, given[n], dueOfCalls[n]);
        KeyTrees y = new KeyTrees();
        Trees.with160Letters(y);
        L.is("given by a full book", y.mend(6), -3);
    }

    private static void badAheadOfAll() {
        L.sentence("Terms", "of several BAD ahead of all others");
        L.keeps("late: not", Trees::rich, x -> x.late(15, 2), BAD);
        L.keeps("lose: not", Trees::rich, x -> x.lose(15, 0), BAD);
        L.keeps("luck: not, by c", Trees::rich, x -> x.luck(15, 11, 0), BAD);
        L.keeps("luck: not, by what", Trees::rich, x -> x.luck(15, 0, 2), BAD);
        L.keeps("member: none", Trees::rich, x -> x.member(15, 6), BAD);
        L.keeps("node: none", Trees::rich, x -> x.node(31, 3), BAD);
        L.keeps("got: null", Trees::rich, x -> x.got(3, 3, 1, 0, 25), BAD);
        L.keeps("got: cast", Trees::rich, x -> x.got(3, 0, 0, 0, 0), BAD);
        L.keeps("got: index", Trees::rich, x -> x.got(16, 0, 1, -1, 1), BAD);
        L.keeps("got: not", Trees::rich, x -> x.got(16, 0, 1, 0, 1), BAD);
        L.keeps("film: null", Trees::rich, x -> x.film(15, 3, 1, 0), BAD);
        L.keeps("film: cast", Trees::rich, x -> x.film(32, 0, 0, 0), BAD);
        L.keeps("film: index", Trees::rich, x -> x.film(32, 0, 1, 0), BAD);
        L.keeps("sheet: size", Trees::rich, x -> x.sheet(0, 4, -1), BAD);
        L.keeps("item: null", Trees::rich, x -> x.item(3, 4, 0, 0), BAD);
        L.keeps("item: index", Trees::rich, x -> x.item(0, -1, 3, 0), BAD);
        L.keeps("copy: null", Trees::rich, x -> x.copy(3, 0, 4, 0, 1), BAD);
        L.keeps("copy: index", Trees::rich, x -> x.copy(-1, 0, 0, 0, -1), BAD);
        L.keeps("mend: full", Trees::with160Letters, x -> x.mend(16), BAD);
        Limits.Steps fullTape = x -> {
            for (int i = 0; i < 90; i++) x.type('!');
        };
        L.keeps("type: full", fullTape, x -> x.type(127), BAD);
        L.keeps("type: full, below", fullTape, x -> x.type(31), BAD);
        L.keeps("what can stand there: full", fullTape, x -> x.type(126), FULL);
    }

    private static void theFirstNamed() {
        L.sentence("Terms", "then the first that a call names");
        L.keeps("batch: not, then full", Trees::with160Letters, KeyTrees::batch, NOT);
        L.keeps("mend: not, then full", Trees::with160Letters, x -> x.mend(0), NOT);
        L.keeps("got: not, then none", x -> x.sheet(0, 0, 1), x -> x.got(0, 0, 0, 0, 1), NOT);
    }

    private static void whatTheMachineFinds() {
        L.sentence("Terms", "(NULL, CAST, INDEX, SIZE in this order;");
        L.keeps("got: null, index", Trees::rich, x -> x.got(3, 3, 1, -1, 1), NULL);
        L.keeps("film: null, index", Trees::rich, x -> x.film(16, 3, 1, -1), NULL);
        L.keeps("item: null, index", Trees::rich, x -> x.item(3, 1, -1, 0), NULL);
        L.keeps("copy: null, index", Trees::rich, x -> x.copy(0, -1, 3, -1, -1), NULL);
        L.keeps("got: cast, index", Trees::rich, x -> x.got(3, 0, 2, -1, 1), CAST);
        L.keeps("film: cast, index", Trees::rich, x -> x.film(16, 0, 2, -1), CAST);
        L.keeps("item: cast, index", Trees::rich, x -> x.item(0, 2, -1, 0), CAST);
        L.keeps("copy: cast, index", Trees::rich, x -> x.copy(0, -1, 1, -1, -1), CAST);
        L.keeps("got: index, not", Trees::rich, x -> x.got(3, 0, 1, 0, 4), INDEX);
    }

    /** Every call that the rich state refuses, one behind the other. */
    private static void refusedChangesNothing() {
        L.sentence("Terms", "What is refused changes nothing, but as told.");
        L.alike("all that is refused", x -> {
            Trees.rich(x);
            int[] bad = {x.come(16), x.leave(-1), x.late(0, 2), x.late(-1, 1), x.lose(3, 41), x.lose(3, 0), x.mend(16),
                x.member(0, 6), x.node(32, 0), x.key(17, 0), x.letter(17, 0), x.count(9), x.why(0, 17),
                x.opens(65536, 0), x.due(2), x.luck(0, 11, 0), x.type(31), x.type(127), x.drift(0), x.drift(41),
                x.seed(-1), x.got(0, 0, 1, 0, 25), x.film(15, 1, 2, 0), x.sheet(0, 1, 25), x.sheet(4, 1, 1), x.drop(4),
                x.item(0, 4, 0, 14), x.copy(0, 0, 4, 0, 1)};
            for (int n = 0; n < bad.length; n++) L.is("bad " + n, bad[n], BAD);
            int[] not = {x.come(0), x.come(9), x.leave(1), x.leave(2), x.late(3, 1), x.late(0, 0), x.late(9, 1),
                x.lose(0, 1), x.mend(0), x.mend(1), x.mend(3), x.luck(1, 0, 0), x.got(3, 0, 1, 0, 1)};
            for (int n = 0; n < not.length; n++) L.is("not " + n, not[n], NOT);
            L.is("none", x.member(1, 0), NONE);
            int[] found = {x.drop(3), x.item(3, 0, 0, 1), x.film(16, 3, 0, 0), x.copy(0, 0, 3, 0, 1),
                x.copy(3, 0, 0, 0, 1)};
            for (int n = 0; n < found.length; n++) L.is("null " + n, found[n], NULL);
            int[] cast = {x.item(0, 0, 0, 14), x.film(16, 1, 3, 0), x.copy(0, 0, 1, 0, 1), x.copy(1, 0, 0, 0, 1)};
            for (int n = 0; n < cast.length; n++) L.is("cast " + n, cast[n], CAST);
            int[] index = {x.item(0, 1, 3, 14), x.film(16, 1, 2, 2), x.film(16, 0, 1, 0), x.copy(1, 0, 1, 1, 6),
                x.copy(0, 1, 0, 0, 3), x.copy(0, 0, 0, 1, -1)};
            for (int n = 0; n < index.length; n++) L.is("index " + n, index[n], INDEX);
            L.is("size", x.sheet(1, 2, -1), SIZE);
        }, Trees::rich);
        L.alike("all that a new one refuses", x -> {
            int[] not = {x.batch(), x.begin(), x.leave(0), x.late(0, 1), x.late(0, 0), x.lose(0, 1), x.mend(0),
                x.luck(0, 0, 0)};
            for (int n = 0; n < not.length; n++) L.is("not of a new one " + n, not[n], NOT);
            L.is("undo", x.undo(), NONE);
            L.is("restore", x.restore(), NONE);
            L.is("read, but as told", x.read(), -20);
        }, x -> { });
    }

    private static void refusedByAFullBook() {
        L.sentence("Terms", "What is refused changes nothing, but as told.");
        Limits.Steps full = x -> {
            Trees.with160Letters(x);
            x.come(0);
            x.leave(7);
        };
        L.alike("all that a full book refuses", x -> {
            full.tell(x);
            int[] answers = {x.batch(), x.mend(6), x.batch(), x.mend(6)};
            for (int n = 0; n < answers.length; n++) L.is("full " + n, answers[n], FULL);
        }, full);
    }

    private static void setsAreBits() {
        L.sentence("Terms", "Sets of MEMBERS are bits.");
        for (int m = 0; m < 16; m++) {
            KeyTrees x = new KeyTrees();
            x.come(m);
            L.is("coming", x.count(1), 1 << m);
            x.batch();
            L.is("sitting", x.count(0), 1 << m);
            L.is("at 16", x.node(16, 1), 1 << m);
            L.is("holding", x.node(1, 2), 1 << m);
            L.is("holding that key", x.key(4, 3), 1 << m);
            L.is("opening", x.opens(1 << m, 4), 1);
            L.is("the others don't", x.opens(0xffff ^ 1 << m, 4), 0);
            x.late(m, 1);
            L.is("late", x.count(3), 1 << m);
            x.leave(m);
            L.is("leaving", x.count(2), 1 << m);
        }
    }
}
