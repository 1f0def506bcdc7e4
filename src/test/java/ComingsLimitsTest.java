/** Promises 1 to 13, each sentence that names a limit: the last values on either side, and what is refused. */
public final class ComingsLimitsTest {
    private static final Limits L = new Limits("ComingsLimitsTest");
    private static final int BAD = KeyTrees.BAD;
    private static final int NOT = KeyTrees.NOT;
    private static final int FULL = KeyTrees.FULL;
    private static final int NONE = KeyTrees.NONE;
    private static final int LEAST = Integer.MIN_VALUE;
    private static final int MOST = Integer.MAX_VALUE;

    private ComingsLimitsTest() {
    }

    public static void main(String[] args) {
        aNewObject();
        comeCounts();
        comeBad();
        comeNot();
        leaveCounts();
        leaveBad();
        leaveNot();
        batchLetters();
        batchNot();
        batchFull();
        lateAnswers();
        lateBad();
        lateNot();
        loseAnswers();
        loseTheNextOnes();
        loseBad();
        loseNot();
        mendAnswers();
        mendBad();
        mendNot();
        mendFull();
        beginAnswers();
        beginClears();
        beginNot();
        memberAnswers();
        memberBad();
        nodeAnswers();
        nodeBad();
        keyAnswers();
        keyBad();
        letterAnswers();
        letterBad();
        countAnswers();
        countBad();
        L.end();
    }

    // ---- promise 1

    private static void aNewObject() {
        L.sentence("Promise 1", "As told.");
        KeyTrees x = new KeyTrees();
        for (int what = 0; what <= 8; what++) L.is("count " + what, x.count(what), 0);
        int[] members = {NONE, 0, NONE, 0, NONE, 0};
        for (int m = 0; m < 16; m++) {
            for (int what = 0; what < 6; what++) L.is("member " + m + " " + what, x.member(m, what), members[what]);
        }
        int[] nodes = {NONE, 0, NONE};
        for (int v = 1; v < 32; v++) {
            for (int what = 0; what < 3; what++) L.is("node " + v + " " + what, x.node(v, what), nodes[what]);
        }
        L.is("no key", x.key(0, 0), BAD);
        L.is("no letter", x.letter(0, 0), BAD);
        L.is("an empty tape", x.read(), -20);
        L.is("the draw", x.seed(1), 1);
        L.is("nothing to undo", x.undo(), NONE);
        L.is("no image", x.restore(), NONE);
        for (int sheet = 0; sheet < 4; sheet++) L.is("no sheet " + sheet, x.drop(sheet), KeyTrees.NULL);
    }

    // ---- promise 2

    private static void comeCounts() {
        L.sentence("Promise 2", "A MEMBER is told to come: how many are COMING then.");
        KeyTrees x = new KeyTrees();
        for (int m = 15; m >= 0; m--) {
            L.is("come " + m, x.come(m), 16 - m);
            L.is("is coming " + m, x.count(1), 0x10000 - (1 << m));
        }
        KeyTrees y = new KeyTrees();
        Trees.rich(y);
        L.is("one that left", y.come(1), 2);
        L.is("the last one, that never came", y.come(15), 3);
        L.is("each is its own bit", y.count(1), 0x8202);
    }

    private static void comeBad() {
        L.sentence("Promise 2", "BAD");
        for (int m : Limits.NO_MEMBERS) {
            L.keeps("come " + m, Trees::rich, x -> x.come(m), BAD);
            L.keeps("come, of a new one, " + m, x -> { }, x -> x.come(m), BAD);
        }
    }

    private static void comeNot() {
        L.sentence("Promise 2", "NOT: it SITS, or is COMING.");
        L.keeps("sits", Trees::rich, x -> x.come(0), NOT);
        L.keeps("sits, late", Trees::rich, x -> x.come(3), NOT);
        L.keeps("sits yet, leaving", Trees::rich, x -> x.come(2), NOT);
        L.keeps("coming", Trees::rich, x -> x.come(9), NOT);
        for (int m : new int[] {0, 15}) {
            L.keeps("coming " + m, x -> x.come(m), x -> x.come(m), NOT);
            L.keeps("came " + m, x -> sitting(x, m), x -> x.come(m), NOT);
        }
    }

    private static void sitting(KeyTrees x, int m) {
        x.come(m);
        x.batch();
    }

    // ---- promise 3

    private static void leaveCounts() {
        L.sentence("Promise 3", "A MEMBER is told to leave: how many are LEAVING then.");
        KeyTrees x = Trees.whole();
        for (int m = 0; m < 16; m++) {
            L.is("leave " + m, x.leave(m), m + 1);
            L.is("is leaving " + m, x.count(2), (2 << m) - 1);
        }
        KeyTrees y = new KeyTrees();
        Trees.rich(y);
        L.is("a late one", y.leave(3), 2);
        L.is("the first one", y.leave(0), 3);
    }

    private static void leaveBad() {
        L.sentence("Promise 3", "BAD");
        for (int m : Limits.NO_MEMBERS) {
            L.keeps("leave " + m, Trees::rich, x -> x.leave(m), BAD);
            L.keeps("leave, all sitting, " + m, x -> Trees.tell(x, "+0+f!"), x -> x.leave(m), BAD);
        }
    }

    private static void leaveNot() {
        L.sentence("Promise 3", "NOT: it doesn't SIT, or is LEAVING.");
        L.keeps("left", Trees::rich, x -> x.leave(1), NOT);
        L.keeps("never came", Trees::rich, x -> x.leave(15), NOT);
        L.keeps("coming", Trees::rich, x -> x.leave(9), NOT);
        L.keeps("leaving", Trees::rich, x -> x.leave(2), NOT);
        for (int m : new int[] {0, 15}) {
            L.keeps("none sits: " + m, x -> { }, x -> x.leave(m), NOT);
            L.keeps("leaving " + m, x -> {
                sitting(x, m);
                x.leave(m);
            }, x -> x.leave(m), NOT);
        }
    }

    // ---- promise 4

    private static void batchLetters() {
        L.sentence("Promise 4", "A BATCH: how many LETTERS it made.");
        KeyTrees x = new KeyTrees();
        x.come(5);
        L.is("one comes", x.batch(), 4);
        x.leave(5);
        L.is("the last one leaves", x.batch(), 0);
        L.is("no letter by it", x.count(5), 4);
        L.is("a batch all the same", x.count(6), 2);
        for (int m = 0; m < 16; m++) x.come(m);
        L.is("all come", x.batch(), 30);
        L.is("letters", x.count(5), 34);
        for (int m = 0; m < 16; m++) x.leave(m);
        L.is("all leave", x.batch(), 0);
        L.is("batches", x.count(6), 4);
    }

    private static void batchNot() {
        L.sentence("Promise 4", "NOT: none is COMING, none LEAVING");
        L.keeps("new", x -> { }, KeyTrees::batch, NOT);
        L.keeps("behind a batch", x -> {
            Trees.rich(x);
            x.batch();
        }, KeyTrees::batch, NOT);
        L.keeps("begun", x -> {
            Trees.rich(x);
            x.begin();
        }, KeyTrees::batch, NOT);
        L.keeps("a late one alone", x -> {
            Trees.tell(x, "+0!");
            x.late(0, 1);
        }, KeyTrees::batch, NOT);
        L.is("one that comes is enough", Trees.after("+0!+f").batch(), 5);
        L.is("one that leaves is enough", Trees.after("+0+f!-f").batch(), 1);
    }

    private static void batchFull() {
        L.sentence("Promise 4", "FULL: THE BOOK is.");
        L.keeps("160 letters, one is coming", x -> {
            Trees.with160Letters(x);
            x.come(0);
        }, KeyTrees::batch, FULL);
        L.keeps("160 letters, one is leaving", x -> {
            Trees.with160Letters(x);
            x.leave(7);
        }, KeyTrees::batch, FULL);
        L.sentence("Terms", "then the first that a call names");
        L.keeps("not ahead of full", Trees::with160Letters, KeyTrees::batch, NOT);
        L.sentence("Terms", "THE BOOK is full with 200 KEYS or more, or 160 LETTERS or more.");
        KeyTrees x = new KeyTrees();
        Trees.with159Letters(x);
        L.is("159 letters", x.count(5), 159);
        x.come(15);
        int due = x.due(0);
        L.is("159 are not full", x.batch(), due);
        L.is("over the limit", x.count(5), 159 + due);
        x.leave(15);
        L.is("more are full", x.batch(), FULL);
        KeyTrees y = new KeyTrees();
        Trees.with160Letters(y);
        L.is("160 letters", y.count(5), 160);
        L.is("keys", y.count(4) < 200 ? 1 : 0, 1);
        fullByBoth();
    }

    /** One alone comes with 5 keys and 4 letters, the most keys by the fewest letters. */
    private static void fullByBoth() {
        KeyTrees x = new KeyTrees();
        alone(x, 39);
        L.is("195 keys", x.count(4), 195);
        x.come(0);
        L.is("are not full", x.batch(), 4);
        L.is("200 keys", x.count(4), 200);
        x.leave(0);
        L.is("are full", x.batch(), FULL);
        x.undo();
        x.undo();
        L.is("195 again", x.count(4), 195);
        L.is("not full again", x.batch(), 4);
        mostKeys();
    }

    /** More keys than these can't be made by fewer than 160 letters. */
    private static void mostKeys() {
        KeyTrees x = new KeyTrees();
        alone(x, 37);
        Trees.tell(x, "+0+1+2!");
        L.is("197 keys", x.count(4), 197);
        L.is("159 letters", x.count(5), 159);
        x.come(3);
        L.is("are not full", x.batch(), 6);
        L.is("202 keys", x.count(4), 202);
        x.come(4);
        L.is("are full", x.batch(), FULL);
    }

    /** So often one comes alone, and leaves. */
    private static void alone(KeyTrees x, int times) {
        for (int round = 0; round < times; round++) {
            sitting(x, 0);
            x.leave(0);
            x.batch();
        }
    }

    // ---- promise 5

    private static void lateAnswers() {
        L.sentence("Promise 5", "A MEMBER falls asleep (v 1): it is LATE: 0");
        KeyTrees x = Trees.after("+0+1+2+3+f!");
        L.is("0 falls asleep", x.late(0, 1), 0);
        L.is("f falls asleep", x.late(15, 1), 0);
        L.is("they are late", x.count(3), 0x8001);
        L.sentence("Promise 5", "or wakes (0): it READS all LETTERS that it hasn't: how many of these it could open"
            + " that had a KEY in them that it didn't HOLD.");
        L.is("nothing came", x.late(0, 0), 0);
        x.late(0, 1);
        Trees.tell(x, "-1!");
        L.is("1 left 24: 0 at 16 reads one", x.late(0, 0), 1);
        L.is("f at 18 reads one", x.late(15, 0), 1);
        L.is("none is late", x.count(3), 0);
        x.late(15, 1);
        Trees.tell(x, "-0!-2!");
        // 0 at 16 shares nodes 4, 2, 1 with 18, and 2 at 20 nodes 2, 1
        L.is("two batches at once", x.late(15, 0), 5);
        L.is("all are read", x.member(15, 4), 0);
        L.is("all keys are held", x.mend(15), NOT);
    }

    private static void lateBad() {
        L.sentence("Promise 5", "BAD");
        for (int m : Limits.NO_MEMBERS) {
            L.keeps("asleep " + m, Trees::rich, x -> x.late(m, 1), BAD);
            L.keeps("awake " + m, Trees::rich, x -> x.late(m, 0), BAD);
        }
        for (int v : new int[] {-1, 2, LEAST, MOST}) {
            L.keeps("an awake one, v " + v, Trees::rich, x -> x.late(0, v), BAD);
            L.keeps("a late one, v " + v, Trees::rich, x -> x.late(3, v), BAD);
            L.keeps("bad ahead of not, v " + v, Trees::rich, x -> x.late(15, v), BAD);
        }
    }

    private static void lateNot() {
        L.sentence("Promise 5", "NOT: it doesn't SIT, or it is so.");
        for (int m : new int[] {1, 9, 15}) {
            L.keeps("doesn't sit, asleep " + m, Trees::rich, x -> x.late(m, 1), NOT);
            L.keeps("doesn't sit, awake " + m, Trees::rich, x -> x.late(m, 0), NOT);
        }
        L.keeps("is late", Trees::rich, x -> x.late(3, 1), NOT);
        L.keeps("isn't late", Trees::rich, x -> x.late(0, 0), NOT);
        L.keeps("isn't late, leaving", Trees::rich, x -> x.late(2, 0), NOT);
        KeyTrees x = new KeyTrees();
        Trees.rich(x);
        L.is("one that is leaving falls asleep", x.late(2, 1), 0);
        L.is("and wakes", x.late(2, 0), 0);
        L.is("a late one that is leaving", x.leave(3), 2);
        L.is("wakes", x.late(3, 0), 2);
    }

    // ---- promise 6

    private static void loseAnswers() {
        L.sentence("Promise 6", "The next n (1 .. 40) LETTERS that a LATE MEMBER hasn't READ are lost to it, or as"
            + " many as there are: how many.");
        KeyTrees x = new KeyTrees();
        Trees.with45Unread(x);
        L.is("unread", x.member(0, 4), 45);
        L.is("40", x.lose(0, 40), 40);
        L.is("5 unread", x.member(0, 4), 5);
        L.is("40, of 5", x.lose(0, 40), 5);
        L.is("none unread", x.member(0, 4), 0);
        L.is("1, of none", x.lose(0, 1), 0);
        L.is("40, of none", x.lose(0, 40), 0);
        L.is("late yet", x.count(3), 1);
        for (int n = 1; n <= 40; n++) {
            KeyTrees y = Trees.sleeper();
            L.is("of 3: " + n, y.lose(3, n), Math.min(n, 3));
            L.is("3 less " + n, y.member(3, 4), Math.max(0, 3 - n));
        }
        KeyTrees y = new KeyTrees();
        Trees.with45Unread(y);
        y.lose(0, 4);
        L.is("39, of 41", y.lose(0, 39), 39);
        L.is("2 unread", y.member(0, 4), 2);
        L.is("2, of 2", y.lose(0, 2), 2);
        L.is("other ones' letters are as they were", y.member(1, 4), 0);
    }

    private static void loseTheNextOnes() {
        L.sentence("Promise 6", "The next n (1 .. 40) LETTERS");
        int[] opened = {2, 0, 0, 0};
        for (int n = 0; n <= 3; n++) {
            // 14 has node 3's key in it, 15 is for node 2, and 16 is under node 3's
            KeyTrees x = Trees.sleeper();
            if (n > 0) x.lose(3, n);
            L.is("opened behind " + n, x.late(3, 0), opened[n]);
        }
        KeyTrees x = Trees.after("+0+1+2+3!");
        x.late(2, 1);
        Trees.tell(x, "-1!");
        x.lose(2, 40);
        Trees.tell(x, "-3!");
        // node 1's key comes again with each batch, under node 2's, which 2 holds
        L.is("what came behind the lost ones is read", x.late(2, 0), 1);
        L.is("the group key, too", x.member(2, 2), 1);
    }

    private static void loseBad() {
        L.sentence("Promise 6", "BAD");
        for (int m : Limits.NO_MEMBERS) L.keeps("lose " + m, Trees::rich, x -> x.lose(m, 1), BAD);
        for (int n : new int[] {0, 41, -1, LEAST, MOST}) {
            L.keeps("n " + n, Trees::rich, x -> x.lose(3, n), BAD);
            L.keeps("bad ahead of not, n " + n, Trees::rich, x -> x.lose(0, n), BAD);
        }
    }

    private static void loseNot() {
        L.sentence("Promise 6", "NOT: it isn't LATE.");
        for (int m : new int[] {0, 1, 2, 9, 15}) L.keeps("isn't late " + m, Trees::rich, x -> x.lose(m, 1), NOT);
        L.keeps("woken", x -> {
            Trees.rich(x);
            x.late(3, 0);
        }, x -> x.lose(3, 40), NOT);
        L.keeps("left", x -> {
            Trees.rich(x);
            x.leave(3);
            x.batch();
        }, x -> x.lose(3, 1), NOT);
        KeyTrees x = new KeyTrees();
        Trees.rich(x);
        x.leave(3);
        L.is("late, and leaving", x.lose(3, 1), 1);
    }

    // ---- promise 7

    /** 15 sits at 31, beneath 15, 7, 3, 1; 0 leaves 16, 1 leaves 24, 3 leaves 28, 7 leaves 30. */
    private static void mendAnswers() {
        L.sentence("Promise 7", "KEYS of a MEMBER are mended: for each NODE above its LEAF, from below upwards, of"
            + " which it doesn't HOLD the KEY, there's a LETTER more: that KEY in it, under that of its LEAF; all"
            + " READ them that aren't LATE: how many.");
        int[] leavers = {0, 1, 3, 7};
        for (int n = 1; n <= 4; n++) {
            KeyTrees x = Trees.whole();
            Trees.lacking(x, 15, leavers[n - 1]);
            x.late(4, 1);
            int letters = x.count(5);
            L.is("mend", x.mend(15), n);
            L.is("letters", x.count(5), letters + n);
            for (int i = 0; i < n; i++) {
                int node = 31 >> 5 - n + i;
                L.is("inside", x.letter(letters + i, 0), x.node(node, 0));
                L.is("under", x.letter(letters + i, 1), x.node(31, 0));
                L.is("of none", x.letter(letters + i, 2), NONE);
                L.is("held", x.node(node, 2) >> 15 & 1, 1);
            }
            L.is("it has read them", x.member(15, 4), 0);
            L.is("others have, too", x.member(5, 4), 0);
            L.is("a late one hasn't", x.member(4, 4), n);
            L.is("no batch more", x.count(6), 2);
            L.is("holds all then", x.mend(15), NOT);
        }
    }

    private static void mendBad() {
        L.sentence("Promise 7", "BAD");
        for (int m : Limits.NO_MEMBERS) {
            L.keeps("mend " + m, Trees::rich, x -> x.mend(m), BAD);
            L.keeps("bad ahead of full " + m, Trees::with160Letters, x -> x.mend(m), BAD);
        }
    }

    private static void mendNot() {
        L.sentence("Promise 7", "NOT: it doesn't SIT, is LATE, or HOLDS all");
        for (int m : new int[] {1, 9, 15}) L.keeps("doesn't sit " + m, Trees::rich, x -> x.mend(m), NOT);
        L.keeps("is late", Trees::rich, x -> x.mend(3), NOT);
        L.keeps("holds all", Trees::rich, x -> x.mend(0), NOT);
        L.keeps("holds all, leaving", Trees::rich, x -> x.mend(2), NOT);
        L.keeps("is late, and lost all", x -> {
            Trees.rich(x);
            x.lose(3, 40);
        }, x -> x.mend(3), NOT);
        KeyTrees x = new KeyTrees();
        Trees.rich(x);
        x.lose(3, 40);
        x.late(3, 0);
        x.leave(3);
        L.is("one that is leaving, and lacks two", x.mend(3), 2);
        L.sentence("Terms", "then the first that a call names");
        L.keeps("doesn't sit, ahead of full", Trees::with160Letters, y -> y.mend(0), NOT);
        L.keeps("is late, ahead of full", Trees::with160Letters, y -> y.mend(4), NOT);
        L.keeps("holds all, ahead of full", Trees::with160Letters, y -> y.mend(7), NOT);
    }

    private static void mendFull() {
        L.sentence("Promise 7", "FULL: THE BOOK is.");
        L.keeps("160 letters", Trees::with160Letters, x -> x.mend(6), FULL);
        KeyTrees x = new KeyTrees();
        Trees.with159Letters(x);
        L.is("159 letters", x.mend(0), 4);
        L.is("over the limit", x.count(5), 163);
        L.is("read", x.member(0, 2), 1);
    }

    // ---- promise 8

    private static void beginAnswers() {
        L.sentence("Promise 8", "how many KEYS there were");
        KeyTrees x = new KeyTrees();
        x.come(15);
        L.is("none, one is coming", x.begin(), 0);
        sitting(x, 0);
        L.is("5", x.begin(), 5);
        sitting(x, 0);
        x.leave(0);
        x.batch();
        L.is("5, and none sits", x.begin(), 5);
        L.is("31", Trees.whole().begin(), 31);
        KeyTrees y = new KeyTrees();
        Trees.with160Letters(y);
        L.is("127, of a full book", y.begin(), 127);
    }

    private static void beginClears() {
        L.sentence("Promise 8", "THE BOOK is begun anew: none SITS, HOLDS anything, is COMING, LEAVING, ever came; no"
            + " KEYS, LETTERS, BATCHES");
        KeyTrees x = new KeyTrees();
        Trees.rich(x);
        x.begin();
        for (int what = 0; what <= 7; what++) L.is("count " + what, x.count(what), 0);
        int[] due = {NONE, 0, NONE, 0, NONE, 0};
        for (int m = 0; m < 16; m++) {
            for (int what = 0; what < 6; what++) L.is("member " + m + " " + what, x.member(m, what), due[what]);
        }
        for (int v = 1; v < 32; v++) L.is("node " + v, x.node(v, 0), NONE);
        L.is("no key", x.key(0, 0), BAD);
        L.is("no letter", x.letter(0, 0), BAD);
        L.is("one that is first again", x.come(15), 1);
        L.is("its batch", x.batch(), 4);
        L.is("batch 0", x.key(0, 1), 0);
        L.is("holders", x.key(0, 3), 0x8000);
        for (int m = 0; m < 15; m++) L.is("never came", x.why(m, 0), 1);
        L.is("the draw stays", x.seed(0), 77);
        L.is("the tape stays", x.type(' '), 3);
        L.is("sheets stay", x.drop(0), 3);
        L.is("the image stays", x.restore(), 1);
        L.alike("undone", y -> {
            Trees.tell(y, "+1!");
            y.begin();
            y.undo();
        }, y -> Trees.tell(y, "+1!"));
        beginForgetsLetters();
    }

    /** A letter of ahead would tell the group key of now under the leaf's key of one that has left. */
    private static void beginForgetsLetters() {
        KeyTrees x = Trees.after("+0!");
        x.late(0, 1);
        Trees.tell(x, "+1!");
        x.lose(0, 40);
        x.late(0, 0);
        L.is("mended", x.mend(0), 1);
        L.is("the letter 9 has key 9 in it", x.letter(9, 0), 9);
        L.is("under key 0", x.letter(9, 1), 0);
        x.begin();
        Trees.tell(x, "+0+1!-1!");
        L.is("9 letters", x.count(5), 9);
        L.is("key 9 is the group key", x.node(1, 0), 9);
        L.is("1 holds key 0", x.key(0, 3), 2);
        L.is("and doesn't open key 9", x.opens(2, 9), 0);
        L.is("nor reads it as it comes", x.come(1) + x.batch() + (x.key(9, 3) & 2), 1 + 5);
    }

    private static void beginNot() {
        L.sentence("Promise 8", "NOT: none, and none is COMING.");
        L.keeps("new", x -> { }, KeyTrees::begin, NOT);
        L.keeps("begun", x -> {
            Trees.rich(x);
            x.begin();
        }, KeyTrees::begin, NOT);
        L.keeps("no more coming", x -> {
            x.come(3);
            x.undo();
        }, KeyTrees::begin, NOT);
    }

    // ---- promise 9

    private static void memberAnswers() {
        L.sentence("Promise 9", "Of a MEMBER: 0 the LEAF at which it SITS (NONE), 1 how many KEYS it HOLDS, 2 whether"
            + " it HOLDS the GROUP KEY (1, 0; NONE: there is none), 3 whether it's LATE, 4 how many LETTERS it hasn't"
            + " READ (NONE: it doesn't SIT), 5 whether it is COMING (1), LEAVING (2), neither (0).");
        KeyTrees x = new KeyTrees();
        Trees.rich(x);
        int[] members = {0, 1, 2, 3, 9, 15};
        int[][] due = {{16, 6, 1, 0, 0, 0}, {NONE, 5, 0, 0, NONE, 0}, {20, 6, 1, 0, 0, 2}, {28, 5, 0, 1, 3, 0},
            {NONE, 0, 0, 0, NONE, 1}, {NONE, 0, 0, 0, NONE, 0}};
        for (int n = 0; n < members.length; n++) {
            for (int what = 0; what < 6; what++) {
                L.is("member " + members[n] + " " + what, x.member(members[n], what), due[n][what]);
            }
        }
        KeyTrees y = Trees.whole();
        L.is("the first leaf", y.member(0, 0), 16);
        L.is("the last leaf", y.member(15, 0), 31);
        L.is("there is a group key", y.member(15, 2), 1);
        Trees.tell(y, "-0-1-2-3-4-5-6-7-8-9-a-b-c-d-e-f!");
        L.is("there is none", y.member(0, 2), NONE);
        L.is("keys are kept", y.member(15, 1), 5);
        L.keeps("asking changes nothing", Trees::rich, z -> {
            int sum = 0;
            for (int what = 0; what < 6; what++) sum += z.member(3, what);
            return sum;
        }, 28 + 5 + 0 + 1 + 3 + 0);
    }

    private static void memberBad() {
        L.sentence("Promise 9", "BAD.");
        for (int what : new int[] {-1, 6, LEAST, MOST}) {
            L.keeps("what " + what, Trees::rich, x -> x.member(0, what), BAD);
            L.keeps("of one that doesn't sit, what " + what, Trees::rich, x -> x.member(15, what), BAD);
        }
        for (int m : Limits.NO_MEMBERS) {
            for (int what = 0; what < 6; what++) {
                KeyTrees x = new KeyTrees();
                L.is("member " + m + " " + what, x.member(m, what), BAD);
            }
            L.keeps("member " + m, Trees::rich, x -> x.member(m, 0), BAD);
        }
    }

    // ---- promise 10

    private static void nodeAnswers() {
        L.sentence("Promise 10", "Of a NODE: 0 its KEY (NONE), 1 MEMBERS that SIT at or beneath it (a set), 2 MEMBERS"
            + " that HOLD its KEY (a set; NONE: it has none).");
        KeyTrees x = new KeyTrees();
        Trees.rich(x);
        int[] nodes = {1, 2, 3, 4, 5, 6, 7, 14, 15, 16, 20, 24, 28, 31};
        int[][] due = {{16, 13, 5}, {13, 5, 5}, {15, 8, 0}, {11, 1, 1}, {10, 4, 4}, {NONE, 0, NONE}, {8, 8, 8},
            {4, 8, 8}, {NONE, 0, NONE}, {3, 1, 1}, {2, 4, 4}, {NONE, 0, NONE}, {0, 8, 8}, {NONE, 0, NONE}};
        for (int n = 0; n < nodes.length; n++) {
            for (int what = 0; what < 3; what++) {
                L.is("node " + nodes[n] + " " + what, x.node(nodes[n], what), due[n][what]);
            }
        }
        KeyTrees y = Trees.whole();
        for (int v = 1; v < 32; v++) L.is("all sitting: key of " + v, y.node(v, 0), 31 - v);
        L.is("at the first leaf", y.node(16, 1), 1);
        L.is("at the last leaf", y.node(31, 1), 0x8000);
        L.is("beneath the last node that has two beneath it", y.node(15, 1), 0x8080);
        L.is("beneath the first", y.node(1, 1), 0xffff);
        L.is("all hold it", y.node(1, 2), 0xffff);
    }

    private static void nodeBad() {
        L.sentence("Promise 10", "BAD.");
        for (int v : new int[] {0, 32, -1, LEAST, MOST}) {
            for (int what = 0; what < 3; what++) {
                int asked = what;
                L.keeps("node " + v + " " + what, Trees::rich, x -> x.node(v, asked), BAD);
            }
        }
        for (int what : new int[] {-1, 3, LEAST, MOST}) {
            L.keeps("what " + what, Trees::rich, x -> x.node(1, what), BAD);
            L.keeps("of one without a key, what " + what, Trees::rich, x -> x.node(31, what), BAD);
        }
    }

    // ---- promise 11

    private static void keyAnswers() {
        L.sentence("Promise 11", "Of a KEY: 0 its NODE, 1 the BATCH in which it was made, 2 whether its NODE has it"
            + " now (1, 0), 3 MEMBERS that HOLD it (a set).");
        KeyTrees x = new KeyTrees();
        Trees.rich(x);
        int[] keys = {0, 1, 7, 9, 12, 13, 14, 15, 16};
        int[][] due = {{28, 0, 1, 8}, {24, 0, 0, 2}, {8, 0, 1, 1}, {6, 0, 0, 2}, {3, 0, 0, 10}, {2, 0, 1, 5},
            {1, 0, 0, 15}, {3, 1, 1, 0}, {1, 1, 1, 5}};
        for (int n = 0; n < keys.length; n++) {
            for (int what = 0; what < 4; what++) {
                L.is("key " + keys[n] + " " + what, x.key(keys[n], what), due[n][what]);
            }
        }
    }

    private static void keyBad() {
        L.sentence("Promise 11", "BAD.");
        for (int k : new int[] {-1, 17, LEAST, MOST}) {
            for (int what = 0; what < 4; what++) {
                int asked = what;
                L.keeps("key " + k + " " + what, Trees::rich, x -> x.key(k, asked), BAD);
            }
        }
        for (int what : new int[] {-1, 4, LEAST, MOST}) {
            L.keeps("what " + what, Trees::rich, x -> x.key(16, what), BAD);
        }
        L.keeps("there are none", x -> x.come(0), x -> x.key(0, 0), BAD);
    }

    // ---- promise 12

    private static void letterAnswers() {
        L.sentence("Promise 12", "Of a LETTER: 0 the KEY in it, 1 that under which it is, 2 its BATCH (NONE: it was"
            + " mended).");
        KeyTrees x = new KeyTrees();
        Trees.rich(x);
        x.lose(3, 40);
        x.late(3, 0);
        x.mend(3);
        int[] letters = {0, 13, 14, 15, 16, 17, 18};
        int[][] due = {{4, 0, 0}, {14, 12, 0}, {15, 8, 1}, {16, 13, 1}, {16, 15, 1}, {15, 0, NONE}, {16, 0, NONE}};
        for (int n = 0; n < letters.length; n++) {
            for (int what = 0; what < 3; what++) {
                L.is("letter " + letters[n] + " " + what, x.letter(letters[n], what), due[n][what]);
            }
        }
    }

    private static void letterBad() {
        L.sentence("Promise 12", "BAD.");
        for (int i : new int[] {-1, 17, LEAST, MOST}) {
            for (int what = 0; what < 3; what++) {
                int asked = what;
                L.keeps("letter " + i + " " + what, Trees::rich, x -> x.letter(i, asked), BAD);
            }
        }
        for (int what : new int[] {-1, 3, LEAST, MOST}) {
            L.keeps("what " + what, Trees::rich, x -> x.letter(16, what), BAD);
        }
        L.keeps("there are none", x -> x.come(0), x -> x.letter(0, 0), BAD);
    }

    // ---- promise 13

    private static void countAnswers() {
        L.sentence("Promise 13", "0 MEMBERS that SIT (a set), 1 COMING, 2 LEAVING ones (sets), 3 LATE ones (a set), 4"
            + " KEYS, 5 LETTERS, 6 BATCHES, 7 MEMBERS that SIT and don't HOLD the GROUP KEY (a set), 8 what may be"
            + " UNDONE.");
        KeyTrees x = new KeyTrees();
        Trees.rich(x);
        int[] due = {13, 0x200, 4, 8, 17, 17, 2, 8, 6};
        for (int what = 0; what < 9; what++) L.is("count " + what, x.count(what), due[what]);
        KeyTrees y = Trees.whole();
        int[] all = {0xffff, 0, 0, 0, 31, 30, 1, 0, 1};
        for (int what = 0; what < 9; what++) L.is("all sitting, count " + what, y.count(what), all[what]);
        Trees.tell(y, "-0-1-2-3-4-5-6-7-8-9-a-b-c-d-e-f!");
        int[] none = {0, 0, 0, 0, 31, 30, 2, 0, 2};
        for (int what = 0; what < 9; what++) L.is("all left, count " + what, y.count(what), none[what]);
    }

    private static void countBad() {
        L.sentence("Promise 13", "BAD.");
        for (int what : new int[] {-1, 9, LEAST, MOST}) {
            L.keeps("what " + what, Trees::rich, x -> x.count(what), BAD);
        }
    }
}
