/** Promises 14 to 17, each sentence that names a limit. */
public final class OpenedLimitsTest {
    private static final Limits L = new Limits("OpenedLimitsTest");
    private static final int BAD = KeyTrees.BAD;
    private static final int NOT = KeyTrees.NOT;
    private static final int LEAST = Integer.MIN_VALUE;
    private static final int MOST = Integer.MAX_VALUE;

    private OpenedLimitsTest() {
    }

    public static void main(String[] args) {
        whyHolds();
        whyNeverCame();
        whyMadeAhead();
        whyLeft();
        whyElse();
        whyBad();
        opensOfNone();
        opensByLetters();
        opensBad();
        dueOfNothing();
        dueOfAll();
        singleInOrder();
        dueOfAFullBook();
        dueBad();
        luckOfEachC();
        luckOfEachNeed();
        luckOfTheFirstBatch();
        luckOfTheLastBatch();
        luckBad();
        luckNot();
        L.end();
    }

    // ---- promise 14

    private static void whyHolds() {
        L.sentence("Terms", "0 it HOLDS the KEY under which it is");
        KeyTrees x = Trees.after("+0+1!-1!");
        L.is("sits, its own leaf's", x.why(0, 1), 0);
        L.is("left, its own leaf's", x.why(1, 0), 0);
        L.is("left, the last it could open, under 3's", x.why(1, 7), 0);
        L.is("left, under 2's", x.why(1, 6), 4);
        x.come(1);
        x.batch();
        L.is("held ahead of its last coming", x.why(1, 0), 0);
        x.leave(1);
        x.batch();
        x.leave(0);
        x.batch();
        L.is("held, and none sits", x.why(0, 1), 0);
    }

    private static void whyNeverCame() {
        L.sentence("Terms", "1 it never came");
        KeyTrees x = Trees.after("+0!+1");
        for (int m = 1; m < 16; m++) {
            L.is("first letter, " + m, x.why(m, 0), 1);
            L.is("last letter, " + m, x.why(m, 3), 1);
        }
        x.batch();
        L.is("it came", x.why(1, 0), 2);
        L.is("another didn't", x.why(15, 0), 1);
        x.undo();
        L.is("it never came, undone", x.why(1, 0), 1);
        x.begin();
        x.come(2);
        x.batch();
        L.is("begun: it never came", x.why(0, 0), 1);
    }

    private static void whyMadeAhead() {
        L.sentence("Terms", "2 that KEY was made ahead of the BATCH in which it came (the last time)");
        KeyTrees x = Trees.after("+0!+1!");
        L.is("made just ahead", x.why(1, 0), 2);
        L.is("the last letter of ahead", x.why(1, 3), 2);
        L.is("a key of ahead in a letter of now", x.letter(7, 1), 3);
        L.is("made ahead, told now", x.why(1, 7), 2);
        KeyTrees y = Trees.after("+0+1!");
        L.is("made in that batch", y.why(1, 1), 4);
        L.is("made in that batch, the other's", y.why(0, 0), 4);
        Trees.tell(y, "-1!+1!");
        L.is("it came again: 0's leaf is of ahead then", y.why(1, 1), 2);
        L.is("0 came once", y.why(0, 0), 4);
        Trees.tell(y, "-1!");
        L.is("it left, and the last time counts yet", y.why(1, 1), 2);
    }

    private static void whyLeft() {
        L.sentence("Terms", "3 it doesn't SIT, and that KEY was made in the BATCH in which it left, or behind it");
        // 1 sits at 24 and leaves as 2 comes to it; then 3 comes to 20
        KeyTrees x = Trees.after("+0+1!-1+2!+3!");
        L.is("made just ahead of its leaving", x.why(1, 1), 4);
        int made = 8;
        L.is("the first letter of its leaving", x.letter(made, 2), 1);
        L.is("made as it left", x.why(1, made), 3);
        L.is("made as it left, under 2's of batch 0", x.why(1, made + 3), 4);
        L.is("made as it left, under 3's", x.why(1, made + 4), 3);
        int behind = x.count(5) - 1;
        L.is("made behind, or as it left", x.why(1, behind), 3);
        L.is("made behind: 20's", x.key(x.letter(made + 5, 1), 1), 2);
        L.is("made behind", x.why(1, made + 5), 3);
        L.is("one that sits", x.why(0, made), 4);
        Trees.tell(x, "+1!");
        L.is("it sits again", x.why(1, behind), 2);
        x.undo();
        L.is("it left again", x.why(1, behind), 3);
    }

    private static void whyElse() {
        L.sentence("Terms", "4 else");
        KeyTrees x = Trees.sleeper();
        L.is("sits, another's leaf", x.why(0, 0), 4);
        L.is("sits, a letter lost or not read", x.why(3, 16), 4);
        x.late(3, 0);
        L.is("sits, read", x.why(3, 16), 0);
        L.is("left, made ahead of that", x.why(1, 0), 4);
    }

    private static void whyBad() {
        L.sentence("Promise 14", "BAD.");
        for (int m : Limits.NO_MEMBERS) {
            L.keeps("m " + m, Trees::rich, x -> x.why(m, 0), BAD);
            L.keeps("m " + m + ", and no letter", Trees::rich, x -> x.why(m, 17), BAD);
        }
        for (int i : new int[] {-1, 17, LEAST, MOST}) {
            L.keeps("i " + i, Trees::rich, x -> x.why(0, i), BAD);
            L.keeps("i " + i + " of one that never came", Trees::rich, x -> x.why(15, i), BAD);
        }
        L.keeps("no letters yet", x -> x.come(0), x -> x.why(0, 0), BAD);
        L.keeps("the first letter, the last member", Trees::rich, x -> x.why(15, 0), 1);
        L.keeps("the last letter, the first member", Trees::rich, x -> x.why(0, 16), 4);
    }

    // ---- promise 15

    private static void opensOfNone() {
        L.sentence("Promise 15", "Whether a KEY is OPENED by a set of MEMBERS (1, 0).");
        KeyTrees x = new KeyTrees();
        Trees.rich(x);
        for (int k = 0; k < 17; k++) {
            L.is("by none, " + k, x.opens(0, k), 0);
            L.is("by all, " + k, x.opens(0xffff, k), 1);
            L.is("by those that never came, " + k, x.opens(0xffff & ~15, k), 0);
            L.is("by one that is coming, " + k, x.opens(1 << 9, k), 0);
        }
        KeyTrees y = Trees.whole();
        L.is("the last member's leaf by it", y.opens(0x8000, 0), 1);
        L.is("the last member's leaf by the others", y.opens(0x7fff, 0), 0);
        L.is("the first member's leaf by it", y.opens(1, 15), 1);
        L.is("the first member's leaf by the others", y.opens(0xfffe, 15), 0);
    }

    private static void opensByLetters() {
        L.sentence("Terms", "KEYS that any of them HOLDS, and those in all LETTERS ever that are under one that is"
            + " OPENED.");
        KeyTrees x = Trees.sleeper();
        L.is("not held, by a letter not read", x.opens(8, 15), 1);
        L.is("not held, by a letter under that one", x.opens(8, 16), 1);
        x.lose(3, 40);
        L.is("by lost letters", x.opens(8, 16), 1);
        L.is("by one that left ahead of it", x.opens(2, 16), 0);
        // 1 sits at 24, and 3 at 28: each alone lacks the other's, together they have both
        L.is("1's leaf by 3", x.opens(8, 1), 0);
        L.is("3's leaf by 1", x.opens(2, 0), 0);
        L.is("1's leaf by both", x.opens(10, 1), 1);
        L.is("3's leaf by both", x.opens(10, 0), 1);
        // the key that 2 holds of old, as it left, is told on by no letter
        KeyTrees y = Trees.after("+0+1+2!-2!-0!");
        L.is("of the batch in which it left", y.opens(4, y.node(1, 0)), 0);
        L.is("of its own time", y.opens(4, 10), 1);
        L.keeps("asking changes nothing", Trees::rich, z -> z.opens(8, 16), 1);
    }

    private static void opensBad() {
        L.sentence("Promise 15", "BAD.");
        for (int set : new int[] {-1, 0x10000, 0x10001, LEAST, MOST}) {
            L.keeps("set " + set, Trees::rich, x -> x.opens(set, 0), BAD);
            L.keeps("set " + set + ", and no key", Trees::rich, x -> x.opens(set, 17), BAD);
        }
        for (int k : new int[] {-1, 17, LEAST, MOST}) {
            L.keeps("k " + k, Trees::rich, x -> x.opens(1, k), BAD);
            L.keeps("k " + k + " by none", Trees::rich, x -> x.opens(0, k), BAD);
        }
        L.keeps("no keys yet", x -> x.come(0), x -> x.opens(1, 0), BAD);
        L.keeps("the last key", Trees::rich, x -> x.opens(1, 16), 1);
        L.keeps("the first key", Trees::rich, x -> x.opens(8, 0), 1);
    }

    // ---- promise 16

    private static void dueOfNothing() {
        L.sentence("Terms", "DUE: how many LETTERS a BATCH now would make.");
        for (int what = 0; what < 2; what++) {
            int asked = what;
            L.keeps("new " + what, x -> { }, x -> x.due(asked), 0);
            L.keeps("none comes or leaves " + what, x -> {
                Trees.rich(x);
                x.batch();
            }, x -> x.due(asked), 0);
            L.keeps("the last one leaves " + what, x -> Trees.tell(x, "+5!-5"), x -> x.due(asked), 0);
            L.keeps("one comes to an empty tree " + what, x -> x.come(15), x -> x.due(asked), 4);
        }
    }

    private static void dueOfAll() {
        L.sentence("Promise 16", "DUE (what 0), SINGLE (1).");
        Limits.Steps all = x -> Trees.tell(x, "+0+1+2+3+4+5+6+7+8+9+a+b+c+d+e+f");
        L.keeps("all come", all, x -> x.due(0), 30);
        // leaves 16, 24, 20, 28, then every other one, then their siblings
        L.keeps("all come, single", all, x -> x.due(1), 4 + 5 + 6 + 6 + 4 * 7 + 8 * 8);
        KeyTrees x = new KeyTrees();
        Trees.rich(x);
        // 9 takes 20 as 2 leaves it: one letter of 10 and of 5, two of 2 and of 1
        L.is("one leaves, one comes", x.due(0), 6);
        L.is("as due", x.batch(), 6);
    }

    private static void singleInOrder() {
        L.sentence("Terms", "SINGLE: how many BATCHES would, were each of those LEAVING, by their numbers, then each"
            + " of those COMING a BATCH alone.");
        // 0 sits at 16, 1 at 24, 2 at 20: 1's one letter, then 2's two
        KeyTrees x = Trees.after("+0+1+2!-1-2");
        L.is("1 ahead of 2", x.due(1), 1 + 2);
        KeyTrees y = Trees.after("+0+2!+1!-1-2");
        // here 1 sits at 20, 2 at 24: 1's three letters, then 2's one
        L.is("1 ahead of 2, the other way", y.due(1), 3 + 1);
        // 6 leaves 24 ahead of 0, whose number is less: 0 comes to 24 then
        KeyTrees u = Trees.after("+5+6!-6+0");
        L.is("who leaves ahead of who comes", u.due(1), 1 + 5);
        L.is("at once 0 takes 24", u.due(0), 5);
        // a leaf that was left is not taken again, as each comes by a batch of its own
        KeyTrees z = Trees.after("+0+1+2+3!-2+9");
        L.is("at once 9 takes 20", z.due(0), 1 + 1 + 2 + 2);
        L.is("single 9 goes to 20 by who sits", z.due(1), 1 + 2 + 1 + 1 + 2 + 2);
        KeyTrees w = Trees.after("+0+1+2+3+4!-4+9");
        L.is("at once 9 takes 18", w.due(0), 1 + 2 + 2 + 2);
        L.is("single 4 leaves 16 and 20, and 9 comes to 18", w.due(1), 1 + 2 + 2 + 7);
        KeyTrees v = Trees.after("+0+1+2+3+4!-0+9");
        L.is("at once 9 takes 16", v.due(0), 1 + 2 + 2 + 2);
        // 0 leaves 16: 4, 2, 1; then 9 goes beneath 5 or 4, of like ones the lesser: to 16
        L.is("single", v.due(1), 1 + 2 + 2 + 1 + 2 + 2 + 2);
        L.keeps("asking changes nothing", Trees::rich, t -> t.due(1), 3 + 6);
    }

    private static void dueOfAFullBook() {
        L.sentence("Promise 16", "THE BOOK's limits count for nothing.");
        for (int what = 0; what < 2; what++) {
            int asked = what;
            L.keeps("160 letters, one leaves " + what, x -> {
                Trees.with160Letters(x);
                x.leave(7);
            }, x -> x.due(asked), sevenLeaves());
        }
        KeyTrees x = new KeyTrees();
        Trees.with160Letters(x);
        x.leave(7);
        x.come(0);
        x.come(1);
        L.is("full", x.batch(), KeyTrees.FULL);
        L.is("due is more than none", x.due(0) > 7 ? 1 : 0, 1);
        L.is("single is more than that", x.due(1) > x.due(0) ? 1 : 0, 1);
    }

    /** The letters by which 7 leaves the book of 160 letters: told by who sits beneath the nodes above it. */
    private static int sevenLeaves() {
        KeyTrees x = new KeyTrees();
        Trees.with160Letters(x);
        int letters = 0;
        for (int v = x.member(7, 0) / 2; v >= 1; v /= 2) {
            for (int beneath = 2 * v; beneath <= 2 * v + 1; beneath++) {
                if ((x.node(beneath, 1) & ~(1 << 7)) != 0) letters++;
            }
        }
        return letters;
    }

    private static void dueBad() {
        L.sentence("Promise 16", "BAD");
        for (int what : new int[] {-1, 2, LEAST, MOST}) {
            L.keeps("what " + what, Trees::rich, x -> x.due(what), BAD);
            L.keeps("of a new one, what " + what, x -> { }, x -> x.due(what), BAD);
        }
    }

    // ---- promise 17

    private static void luckOfEachC() {
        L.sentence("Promise 17", "LUCK: above (what 0), below (1).");
        int[] above = {1, 9, 4, 7, 3, 1, 2, 3, 1, 1, 0};
        int[] below = {1, 10, 5, 10, 5, 2, 5, 10, 5, 10, 1};
        KeyTrees x = Trees.after("+0+1!-1!");
        for (int c = 0; c <= 10; c++) {
            L.is("above by " + c, x.luck(0, c, 0), above[c]);
            L.is("below by " + c, x.luck(0, c, 1), below[c]);
        }
    }

    /** 15 sits at 31: of a batch that changes 31's path it needs four letters, or three, two, one. */
    private static void luckOfEachNeed() {
        L.sentence("Terms", "it needs those LETTERS that are for its LEAF, or for a NODE above that, 1 not (each"
            + " being for the NODE under whose KEY it is); each is lost by c of 10, apart: how likely none of these"
            + " is: a fraction in lowest terms.");
        int[] leavers = {0, 1, 3, 7};
        int[] above = {9, 81, 729, 6561};
        int[] fifths = {4, 16, 64, 256};
        int below = 1;
        int fifth = 1;
        for (int n = 1; n <= 4; n++) {
            below *= 10;
            fifth *= 5;
            KeyTrees x = Trees.whole();
            x.leave(leavers[n - 1]);
            x.batch();
            L.is("above, needing " + n, x.luck(15, 1, 0), above[n - 1]);
            L.is("below, needing " + n, x.luck(15, 1, 1), below);
            L.is("above in lowest terms, needing " + n, x.luck(15, 2, 0), fifths[n - 1]);
            L.is("below in lowest terms, needing " + n, x.luck(15, 2, 1), fifth);
            L.is("halves, needing " + n, x.luck(15, 5, 1), 1 << n);
            L.is("one, needing " + n, x.luck(15, 5, 0), 1);
            L.is("none is lost, needing " + n, x.luck(15, 0, 0), 1);
            L.is("of one, needing " + n, x.luck(15, 0, 1), 1);
            L.is("all are lost, needing " + n, x.luck(15, 10, 0), 0);
            L.is("of one again, needing " + n, x.luck(15, 10, 1), 1);
        }
    }

    /** All come at once: each needs four, the first letter and the last among them. */
    private static void luckOfTheFirstBatch() {
        L.sentence("Promise 17", "LUCK: above (what 0), below (1).");
        KeyTrees x = Trees.whole();
        for (int m = 0; m < 16; m++) {
            L.is("above of " + m, x.luck(m, 3, 0), 2401);
            L.is("below of " + m, x.luck(m, 3, 1), 10000);
        }
        KeyTrees y = Trees.after("+f!");
        L.is("above of one alone", y.luck(15, 1, 0), 6561);
        L.is("below of one alone", y.luck(15, 1, 1), 10000);
    }

    private static void luckOfTheLastBatch() {
        L.sentence("Terms", "of the last BATCH (mended LETTERS are of none)");
        KeyTrees x = Trees.whole();
        L.is("four of the first", x.luck(15, 1, 1), 10000);
        Trees.lacking(x, 15, 1);
        L.is("two of the last", x.luck(15, 1, 1), 100);
        x.mend(15);
        L.is("two, mended or not", x.luck(15, 1, 1), 100);
        x.undo();
        Trees.tell(x, "-0!");
        L.is("one of the last", x.luck(15, 1, 1), 10);
        x.undo();
        L.is("two again", x.luck(15, 1, 1), 100);
        KeyTrees y = Trees.after("+0!-0!+0!");
        L.is("behind a batch without letters", y.luck(0, 1, 1), 10000);
        L.keeps("asking changes nothing", Trees::rich, z -> z.luck(3, 1, 0), 81);
    }

    private static void luckBad() {
        L.sentence("Promise 17", "BAD");
        for (int m : Limits.NO_MEMBERS) L.keeps("m " + m, Trees::rich, x -> x.luck(m, 1, 0), BAD);
        for (int c : new int[] {-1, 11, LEAST, MOST}) {
            L.keeps("c " + c, Trees::rich, x -> x.luck(0, c, 0), BAD);
            L.keeps("bad ahead of not, c " + c, Trees::rich, x -> x.luck(15, c, 1), BAD);
        }
        for (int what : new int[] {-1, 2, LEAST, MOST}) {
            L.keeps("what " + what, Trees::rich, x -> x.luck(0, 1, what), BAD);
            L.keeps("bad ahead of not, what " + what, Trees::rich, x -> x.luck(15, 1, what), BAD);
        }
    }

    private static void luckNot() {
        L.sentence("Promise 17", "NOT: it doesn't SIT.");
        for (int m : new int[] {1, 9, 15}) {
            L.keeps("doesn't sit " + m, Trees::rich, x -> x.luck(m, 0, 0), NOT);
            L.keeps("doesn't sit, below " + m, Trees::rich, x -> x.luck(m, 10, 1), NOT);
        }
        L.keeps("sits, late", Trees::rich, x -> x.luck(3, 1, 1), 100);
        L.keeps("sits, leaving", Trees::rich, x -> x.luck(2, 1, 1), 10);
    }
}
