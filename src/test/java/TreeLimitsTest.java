/** The terms of part 1, each sentence that names a limit: nodes, keys, letters, batches, who reads. */
public final class TreeLimitsTest {
    private static final Limits L = new Limits("TreeLimitsTest");
    private static final int NOT = KeyTrees.NOT;
    private static final int NONE = KeyTrees.NONE;
    private static final String ALL_COME = "+0+1+2+3+4+5+6+7+8+9+a+b+c+d+e+f";
    private static final String ALL_LEAVE = "-0-1-2-3-4-5-6-7-8-9-a-b-c-d-e-f";
    /** The leaves to which members go, one by one, in an empty tree. */
    private static final int[] LEAVES = {16, 24, 20, 28, 18, 26, 22, 30, 17, 25, 21, 29, 19, 27, 23, 31};

    private TreeLimitsTest() {
    }

    public static void main(String[] args) {
        nodesAndLeaves();
        noTwoAtOne();
        liveNodes();
        latestKeys();
        keysAreNumbered();
        lettersAreNumbered();
        batchesAreNumbered();
        keysAreNeverLost();
        groupKey();
        noneOfBothAtFirst();
        leavingFirst();
        leastLeafLeft();
        leafLeftInThisBatch();
        whereFewerSit();
        likeOnesTheLesser();
        changedNodes();
        lettersOfALeaving();
        whoCameHolds();
        noneIsComingThen();
        readFromItsBatchOn();
        lateOnesDont();
        whoLeavesIsNotLate();
        readOnlyOnce();
        readInOrder();
        L.end();
    }

    private static void nodesAndLeaves() {
        L.sentence("Terms", "NODES 1 .. 31: 2 v and 2 v and 1 are beneath v (1 .. 15); LEAVES are 16 .. 31.");
        KeyTrees x = Trees.whole();
        for (int m = 0; m < 16; m++) {
            L.is("leaf of " + m, x.member(m, 0), LEAVES[m]);
            L.is("at it", x.node(LEAVES[m], 1), 1 << m);
        }
        for (int v = 1; v < 16; v++) {
            L.is("beneath " + v, x.node(v, 1), x.node(2 * v, 1) | x.node(2 * v + 1, 1));
        }
        L.is("beneath 2", x.node(2, 1), 0x5555);
        L.is("beneath 3", x.node(3, 1), 0xaaaa);
        L.is("beneath 8", x.node(8, 1), 0x0101);
        L.is("beneath 15", x.node(15, 1), 0x8080);
    }

    private static void noTwoAtOne() {
        L.sentence("Terms", "MEMBERS 0 .. 15: each SITS at a LEAF or not (none at first), no two at one.");
        int[] seeds = {3, 14, 15, 92, 65, 35, 89, 79};
        for (int seed : seeds) {
            KeyTrees x = new KeyTrees();
            x.seed(seed);
            for (int round = 0; round < 8; round++) {
                x.drift(12);
                int seen = 0;
                for (int m = 0; m < 16; m++) {
                    int leaf = x.member(m, 0);
                    if (leaf == NONE) continue;
                    L.is("a leaf", leaf >= 16 && leaf <= 31 ? 1 : 0, 1);
                    L.is("alone at it", x.node(leaf, 1), 1 << m);
                    L.is("no other one", seen >> leaf - 16 & 1, 0);
                    seen |= 1 << leaf - 16;
                }
            }
        }
    }

    private static void liveNodes() {
        L.sentence("Terms", "A NODE is LIVE, if one SITS at it, or at a LEAF beneath it (or beneath those). KEYS are"
            + " numbered as they are made, 0 on, each for a NODE; a LIVE NODE has one (the latest that was made for"
            + " it), one that isn't LIVE has none.");
        for (int n = 0; n < 16; n++) {
            // all but one leave, then that one
            KeyTrees x = Trees.whole();
            for (int m = 0; m < 16; m++) {
                if (m != n) x.leave(m);
            }
            L.is("letters of those above", x.batch(), 4);
            for (int v = 1; v < 32; v++) {
                int leaf = LEAVES[n];
                boolean live = leaf == v || leaf / 2 == v || leaf / 4 == v || leaf / 8 == v || leaf / 16 == v;
                L.is("a key of " + v, x.node(v, 0) != NONE ? 1 : 0, live ? 1 : 0);
                L.is("holders at " + v, x.node(v, 2), live ? 1 << n : NONE);
            }
            L.is("the leaf keeps its key", x.node(LEAVES[n], 0), 31 - LEAVES[n]);
            x.leave(n);
            L.is("no letter", x.batch(), 0);
            for (int v = 1; v < 32; v++) L.is("no key of " + v, x.node(v, 0), NONE);
            L.is("keys stay", x.count(4), 31 + 4);
        }
    }

    private static void latestKeys() {
        L.sentence("Terms", "(the latest that was made for it)");
        KeyTrees x = Trees.after("+0!");
        for (int round = 1; round <= 8; round++) {
            Trees.tell(x, "+1!");
            int now = x.node(1, 0);
            L.is("the last one made", now, x.count(4) - 1);
            L.is("its node has it", x.key(now, 2), 1);
            Trees.tell(x, "-1!");
            L.is("no more", x.key(now, 2), 0);
            L.is("another has come", x.node(1, 0), now + 1);
            L.is("16 keeps its own", x.node(16, 0), 0);
            L.is("24's is not its own any more", x.node(24, 0), NONE);
        }
        for (int k = 0; k < x.count(4); k++) {
            L.is("now, or not: " + k, x.key(k, 2), x.node(x.key(k, 0), 0) == k ? 1 : 0);
        }
    }

    private static void keysAreNumbered() {
        L.sentence("Terms", "From the greatest number down each CHANGED NODE that is LIVE gets a new KEY");
        KeyTrees x = Trees.whole();
        for (int k = 0; k < 31; k++) L.is("node of " + k, x.key(k, 0), 31 - k);
        Trees.tell(x, "-0-3!");
        int[] nodes = {14, 8, 7, 4, 3, 2, 1};
        for (int k = 0; k < 7; k++) {
            L.is("node of " + (31 + k), x.key(31 + k, 0), nodes[k]);
            L.is("batch of " + (31 + k), x.key(31 + k, 1), 1);
        }
        L.is("no more", x.count(4), 38);
        Trees.tell(x, "+0+3!");
        L.is("a leaf that was left and is taken has a new key", x.key(38, 0), 28);
        L.is("another", x.key(39, 0), 16);
    }

    private static void lettersAreNumbered() {
        L.sentence("Terms", "Then for each CHANGED LIVE NODE v of 1 .. 15, from the greatest down, there's a LETTER"
            + " for 2 v, then one for 2 v and 1, if that is LIVE: the KEY of v in it, under the KEY of that.");
        KeyTrees x = Trees.whole();
        for (int i = 0; i < 30; i++) {
            L.is("in " + i, x.letter(i, 0), 16 + i / 2);
            L.is("under, in " + i, x.letter(i, 1), x.node(2 * (15 - i / 2) + i % 2, 0));
            L.is("batch of " + i, x.letter(i, 2), 0);
        }
        Trees.tell(x, "-0!");
        // 16 is not live: 17 beneath 8, then two each beneath 4, 2, 1
        int[] inside = {8, 4, 4, 2, 2, 1, 1};
        int[] under = {17, 8, 9, 4, 5, 2, 3};
        for (int i = 0; i < 7; i++) {
            L.is("in " + (30 + i), x.letter(30 + i, 0), x.node(inside[i], 0));
            L.is("under, in " + (30 + i), x.letter(30 + i, 1), x.node(under[i], 0));
        }
        L.is("no more", x.count(5), 37);
        KeyTrees y = Trees.after("+0!");
        for (int i = 0; i < 4; i++) {
            L.is("in " + i, y.letter(i, 0), i + 1);
            L.is("under, in " + i, y.letter(i, 1), i);
        }
        KeyTrees z = Trees.after("+0+1!-0!");
        L.is("2 isn't live: one for 3 alone", z.letter(8, 1), z.node(3, 0));
        L.is("one alone", z.count(5), 9);
    }

    private static void batchesAreNumbered() {
        L.sentence("Terms", "A BATCH (numbered 0 on)");
        KeyTrees x = new KeyTrees();
        for (int batch = 0; batch < 12; batch++) {
            L.is("batches", x.count(6), batch);
            int keys = x.count(4);
            int letters = x.count(5);
            Trees.tell(x, batch % 2 == 0 ? "+0!" : "-0!");
            if (batch % 2 == 1) continue;
            L.is("of the first key", x.key(keys, 1), batch);
            L.is("of the last key", x.key(keys + 4, 1), batch);
            L.is("of the first letter", x.letter(letters, 2), batch);
            L.is("of the last letter", x.letter(letters + 3, 2), batch);
        }
    }

    private static void keysAreNeverLost() {
        L.sentence("Terms", "A MEMBER HOLDS KEYS (none at first), and never loses one.");
        KeyTrees x = new KeyTrees();
        L.is("none at first", x.member(0, 1), 0);
        x.come(0);
        L.is("none as it is coming", x.member(0, 1), 0);
        for (int round = 1; round <= 6; round++) {
            x.batch();
            L.is("five more", x.member(0, 1), 5 * round);
            x.leave(0);
            x.batch();
            L.is("none is lost", x.member(0, 1), 5 * round);
            x.come(0);
        }
        for (int k = 0; k < 30; k++) L.is("held " + k, x.key(k, 3), 1);
    }

    private static void groupKey() {
        L.sentence("Terms", "The GROUP KEY is that of NODE 1.");
        KeyTrees x = Trees.sleeper();
        for (int m = 0; m < 16; m++) {
            L.is("held by " + m, x.member(m, 2), x.node(1, 2) >> m & 1);
            L.is("held, by its number, by " + m, x.member(m, 2), x.key(x.node(1, 0), 3) >> m & 1);
        }
        L.is("who sits without it", x.count(7), x.count(0) & ~x.node(1, 2));
        L.is("one sits without it", x.count(7), 8);
    }

    private static void noneOfBothAtFirst() {
        L.sentence("Terms", "COMING are those that are told to come, LEAVING those that are told to leave (none of"
            + " both at first).");
        KeyTrees x = new KeyTrees();
        L.is("none is coming", x.count(1), 0);
        L.is("none is leaving", x.count(2), 0);
        x.come(15);
        L.is("15 is coming", x.count(1), 0x8000);
        L.is("it doesn't sit yet", x.count(0), 0);
        x.batch();
        x.leave(15);
        L.is("15 is leaving", x.count(2), 0x8000);
        L.is("it sits yet", x.count(0), 0x8000);
    }

    private static void leavingFirst() {
        L.sentence("Terms", "first LEAVING ones SIT no more. Then COMING ones, by their numbers, SIT");
        KeyTrees x = Trees.after("+e+f!-e-f+0+1!");
        L.is("0 sits where e did", x.member(0, 0), 16);
        L.is("1 sits where f did", x.member(1, 0), 24);
        L.is("e sits no more", x.member(14, 0), NONE);
        KeyTrees y = Trees.after("+f+0+7!");
        L.is("0 first", y.member(0, 0), 16);
        L.is("7 then", y.member(7, 0), 24);
        L.is("f at last", y.member(15, 0), 20);
        KeyTrees z = Trees.after(ALL_COME + "!" + ALL_LEAVE);
        z.batch();
        Trees.tell(z, ALL_COME + "!");
        for (int m = 0; m < 16; m++) L.is("all come again: " + m, z.member(m, 0), LEAVES[m]);
    }

    private static void leastLeafLeft() {
        L.sentence("Terms", "at the least LEAF that was left in this BATCH, and is free yet");
        KeyTrees x = Trees.after("+0+1+2+3+4+5+6+7!");
        // 5 sat at 26, 2 at 20, 3 at 28, 7 at 30
        Trees.tell(x, "-5-2-3-7+f+e+8+9!");
        L.is("8 at the least", x.member(8, 0), 20);
        L.is("9 at the next", x.member(9, 0), 26);
        L.is("e at the next", x.member(14, 0), 28);
        L.is("f at the greatest", x.member(15, 0), 30);
        KeyTrees y = Trees.whole();
        Trees.tell(y, "-0-f!+f!");
        L.is("16 and 31 were left: the lesser side first", y.member(15, 0), 16);
        KeyTrees z = Trees.whole();
        z.leave(15);
        z.batch();
        Trees.tell(z, "-0+f!");
        L.is("16 was left, 31 isn't taken", z.member(15, 0), 16);
        Trees.tell(z, "-1-2+0+1!");
        L.is("1 is leaving and can't come: 2 is still told", z.count(2), 6);
    }

    private static void leafLeftInThisBatch() {
        L.sentence("Terms", "if there is none: from NODE 1 down");
        // 4 at 18 leaves; in the next batch 18 is no leaf that was left
        KeyTrees x = Trees.after("+0+1+2+3+4+5!-4!+9!");
        // beneath 2 two sit, beneath 3 three; beneath 4 one, beneath 5 one; beneath 8 one, beneath 9 none
        L.is("9 goes to 18 by who sits", x.member(9, 0), 18);
        KeyTrees y = Trees.after("+0+1+2+3!-3!+4+5!");
        // beneath 3 one sits: beneath 6, so 4 goes to 28; then of like ones 2, 4, 9
        L.is("4 goes where fewer sit", y.member(4, 0), 28);
        L.is("5 goes on from there", y.member(5, 0), 18);
        KeyTrees z = Trees.after("+0+1+2+3!-3+4+5!");
        L.is("4 takes the leaf left", z.member(4, 0), 28);
        L.is("5 finds none left", z.member(5, 0), 18);
        KeyTrees w = Trees.after("+0+1+2+3!-0!-2+4!");
        L.is("4 takes 20, though 16 is free", w.member(4, 0), 20);
    }

    private static void whereFewerSit() {
        L.sentence("Terms", "each time to that beneath with fewer MEMBERS sitting at or beneath it");
        KeyTrees x = Trees.whole();
        for (int m = 0; m < 16; m++) {
            int leaf = x.member(m, 0);
            x.leave(m);
            x.batch();
            x.come(m);
            L.is("15 sit: to the leaf that is free, " + m, x.batch() > 0 ? x.member(m, 0) : 0, leaf);
            x.undo();
            x.undo();
            x.undo();
            x.undo();
        }
        KeyTrees y = Trees.whole();
        Trees.tell(y, "-1-3-5!");
        // beneath 3 five sit: beneath 6 two (25, 27), beneath 7 three (29, 30, 31)
        Trees.tell(y, "+1!");
        L.is("where two sit, of like ones the lesser", y.member(1, 0), 24);
        Trees.tell(y, "+3!");
        L.is("then beneath 6, of like ones", y.member(3, 0), 26);
        Trees.tell(y, "+5!");
        L.is("the last one free", y.member(5, 0), 28);
    }

    private static void likeOnesTheLesser() {
        L.sentence("Terms", "of like ones the lesser, to a LEAF");
        for (int n = 0; n < 16; n++) {
            KeyTrees x = new KeyTrees();
            for (int m = 0; m <= n; m++) x.come(m);
            x.batch();
            L.is("one of " + (n + 1), x.member(n, 0), LEAVES[n]);
        }
    }

    private static void changedNodes() {
        L.sentence("Terms", "CHANGED: LEAVES at which one came, and NODES above a LEAF at which one came or that one"
            + " left.");
        for (int n = 0; n < 16; n++) {
            KeyTrees x = Trees.whole();
            x.leave(n);
            x.batch();
            for (int v = 1; v < 32; v++) {
                boolean above = v < 16 && (x.key(31 - v, 3) >> n & 1) == 1;
                int due = v == LEAVES[n] ? NONE : above ? x.node(v, 0) : 31 - v;
                L.is("key of " + v + " as " + n + " leaves", x.node(v, 0), due);
                if (above) L.is("a new key of " + v, x.node(v, 0) >= 31 ? 1 : 0, 1);
            }
            L.is("four of them", x.count(4), 35);
            x.come(n);
            x.batch();
            L.is("five as it comes", x.count(4), 40);
            L.is("its leaf's is the first", x.key(35, 0), LEAVES[n]);
        }
    }

    private static void lettersOfALeaving() {
        L.sentence("Terms", "(one that is not LIVE has none any more)");
        KeyTrees x = Trees.after("+0+1!-1!");
        for (int v : new int[] {3, 6, 12, 24}) L.is("no key of " + v, x.node(v, 0), NONE);
        for (int v : new int[] {1, 2, 4, 8, 16}) L.is("a key of " + v, x.node(v, 0) >= 0 ? 1 : 0, 1);
        L.is("one new key, 1's", x.count(4), 10);
        Trees.tell(x, "+1!");
        for (int v : new int[] {3, 6, 12, 24}) L.is("a new key of " + v, x.node(v, 0) >= 10 ? 1 : 0, 1);
    }

    private static void whoCameHolds() {
        L.sentence("Terms", "who came HOLDS that of its LEAF.");
        KeyTrees x = Trees.whole();
        for (int m = 0; m < 16; m++) {
            L.is("its leaf's, it alone " + m, x.node(x.member(m, 0), 2), 1 << m);
            L.is("and those above " + m, x.member(m, 1), 5);
        }
        Trees.tell(x, "-0-f!+0+f!");
        L.is("anew", x.node(16, 2), 1);
        L.is("anew, the last", x.node(31, 2), 0x8000);
        L.is("the old one, too", x.key(15, 3), 1);
        L.is("the old one, too, the last", x.key(0, 3), 0x8000);
    }

    private static void noneIsComingThen() {
        L.sentence("Terms", "Then none is COMING, LEAVING.");
        KeyTrees x = Trees.after("+0+1!+2+f-0-1!");
        L.is("none is coming", x.count(1), 0);
        L.is("none is leaving", x.count(2), 0);
        L.is("2 and f sit", x.count(0), 0x8004);
        for (int m = 0; m < 16; m++) L.is("neither " + m, x.member(m, 5), 0);
    }

    private static void readFromItsBatchOn() {
        L.sentence("Terms", "(who came: from the first one of that BATCH on)");
        // 1 left in batch 1, and came again in batch 3
        KeyTrees x = Trees.after("+0+1+2+3!-1!-0!+1!");
        L.is("it holds the group key", x.member(1, 2), 1);
        L.is("it holds all it needs", x.mend(1), NOT);
        L.is("none unread", x.member(1, 4), 0);
        for (int k = 0; k < x.count(4); k++) {
            int batch = x.key(k, 1);
            if (batch == 1 || batch == 2) L.is("of between, " + k, x.key(k, 3) >> 1 & 1, 0);
        }
        KeyTrees y = Trees.after("+0!+1!");
        L.is("5 keys: its leaf's and those above", y.member(1, 1), 5);
        L.is("none of ahead", y.key(4, 3), 1);
        readNothingOfAhead();
    }

    /** 3 leaves without having read what tells node 3's key under node 7's, which it holds ever after. */
    private static void readNothingOfAhead() {
        KeyTrees x = Trees.after("+0+1+2+3!");
        x.late(3, 1);
        Trees.tell(x, "-1!");
        Trees.tell(x, "-3!+3!");
        L.is("node 3's key of ahead", x.key(15, 3), 0);
        L.is("the group key of ahead", x.key(16, 3), 5);
        L.is("its new group key", x.member(3, 2), 1);
    }

    private static void lateOnesDont() {
        L.sentence("Terms", "but LATE ones don't");
        KeyTrees x = Trees.whole();
        for (int m = 0; m < 16; m += 3) x.late(m, 1);
        int letters = x.count(5);
        Trees.tell(x, "-1!-2!");
        int made = x.count(5) - letters;
        int sleepers = 0;
        for (int m = 0; m < 16; m++) {
            if (m == 1 || m == 2) continue;
            L.is("unread " + m, x.member(m, 4), m % 3 == 0 ? made : 0);
            L.is("holds the group key " + m, x.member(m, 2), m % 3 == 0 ? 0 : 1);
            if (m % 3 == 0) sleepers |= 1 << m;
        }
        L.is("late", x.count(3), sleepers);
        L.is("they lack it", x.count(7), sleepers);
    }

    private static void whoLeavesIsNotLate() {
        L.sentence("Terms", "Who comes, and who leaves, is not LATE.");
        KeyTrees x = Trees.after("+0+1+2!");
        x.late(1, 1);
        x.late(2, 1);
        Trees.tell(x, "-1!");
        L.is("who left isn't late", x.count(3), 4);
        L.is("so it can't wake", x.late(1, 0), NOT);
        Trees.tell(x, "+1!");
        L.is("who came isn't late", x.member(1, 3), 0);
        L.is("it has read", x.member(1, 4), 0);
        L.is("it may fall asleep", x.late(1, 1), 0);
        L.is("both are late", x.count(3), 6);
    }

    /** A key that comes later by a mended letter opens no letter that was read ahead of it. */
    private static void readOnlyOnce() {
        L.sentence("Terms", "Who SITS READS LETTERS in their order, all that there are, behind each BATCH");
        KeyTrees x = Trees.sleeper();
        x.lose(3, 1);
        L.is("shut as it was read", x.late(3, 0), 0);
        int groupKey = x.node(1, 0);
        Trees.tell(x, "-2!");
        L.is("both keys are mended", x.mend(3), 2);
        L.is("the group key of the batch ahead was told under 3's", x.letter(16, 0), groupKey);
        L.is("it isn't read again", x.key(groupKey, 3) >> 3 & 1, 0);
        L.is("though it would open it", x.why(3, 16), 0);
    }

    private static void readInOrder() {
        L.sentence("Terms", "if it HOLDS the KEY under which a LETTER is, it HOLDS that which is in it.");
        KeyTrees x = Trees.whole();
        for (int v = 1; v < 16; v++) L.is("held by who sits beneath " + v, x.node(v, 2), x.node(v, 1));
        Trees.tell(x, "-5-a!+5-c!+a+c-f!");
        for (int v = 1; v < 32; v++) {
            if (x.node(v, 1) != 0) L.is("held by who sits beneath then " + v, x.node(v, 2), x.node(v, 1));
        }
        L.is("who left holds old ones alone", x.node(1, 2) >> 15, 0);
    }
}
