/** Promises 1 to 13: comings and leavings. */
public final class ComingsTest {
    private static final Due DUE = new Due("ComingsTest");

    private ComingsTest() {
    }

    public static void main(String[] args) {
        aNewObject();
        come();
        leave();
        firstBatch();
        batchTakesLeftLeaves();
        batchGoesWhereFewerSit();
        batchOfLeavingAlone();
        batchIsRefused();
        readingOfBatches();
        late();
        lateEndsByLeaving();
        lateEndsByComing();
        lose();
        lettersLostStayLost();
        mend();
        mendOfOne();
        mendOfThree();
        mendedForSleepers();
        mendIsRefused();
        begin();
        member();
        node();
        key();
        letter();
        count();
        DUE.end();
    }

    private static void aNewObject() {
        KeyTrees x = new KeyTrees();
        for (int what = 0; what <= 8; what++) DUE.is("new count " + what, x.count(what), 0);
        for (int m = 0; m < 16; m++) {
            DUE.is("new member 0", x.member(m, 0), KeyTrees.NONE);
            DUE.is("new member 1", x.member(m, 1), 0);
            DUE.is("new member 5", x.member(m, 5), 0);
        }
        for (int v = 1; v < 32; v++) {
            DUE.is("new node 0", x.node(v, 0), KeyTrees.NONE);
            DUE.is("new node 1", x.node(v, 1), 0);
            DUE.is("new node 2", x.node(v, 2), KeyTrees.NONE);
        }
        for (int s = 0; s < 4; s++) DUE.is("new sheet", x.drop(s), KeyTrees.NULL);
        DUE.is("new tape", x.read(), -20);
        DUE.is("new draw", x.seed(5), 1);
        DUE.is("new undo", x.undo(), KeyTrees.NONE);
        DUE.is("new image", x.restore(), KeyTrees.NONE);
    }

    private static void come() {
        KeyTrees x = new KeyTrees();
        DUE.is("come 0", x.come(0), 1);
        DUE.is("come 15", x.come(15), 2);
        DUE.is("come -1", x.come(-1), KeyTrees.BAD);
        DUE.is("come 16", x.come(16), KeyTrees.BAD);
        DUE.is("come least", x.come(Integer.MIN_VALUE), KeyTrees.BAD);
        DUE.is("come most", x.come(Integer.MAX_VALUE), KeyTrees.BAD);
        DUE.is("come again", x.come(15), KeyTrees.NOT);
        DUE.is("two are coming", x.count(1), 0x8001);
        DUE.is("refused ones are no doing", x.count(8), 2);
        x.batch();
        DUE.is("come, though it sits", x.come(15), KeyTrees.NOT);
        DUE.is("come behind a batch", x.come(3), 1);
        x.leave(15);
        DUE.is("come, though it only is leaving", x.come(15), KeyTrees.NOT);
    }

    private static void leave() {
        KeyTrees x = new KeyTrees();
        x.come(4);
        DUE.is("leave, though it only is coming", x.leave(4), KeyTrees.NOT);
        x.come(5);
        x.batch();
        DUE.is("leave", x.leave(4), 1);
        DUE.is("leave again", x.leave(4), KeyTrees.NOT);
        DUE.is("leave 5", x.leave(5), 2);
        DUE.is("leave one that never came", x.leave(6), KeyTrees.NOT);
        DUE.is("leave -1", x.leave(-1), KeyTrees.BAD);
        DUE.is("leave 16", x.leave(16), KeyTrees.BAD);
        DUE.is("two are leaving", x.count(2), 0x30);
        DUE.is("they sit yet", x.count(0), 0x30);
        x.batch();
        DUE.is("leave, though it left", x.leave(4), KeyTrees.NOT);
    }

    private static void firstBatch() {
        KeyTrees x = Trees.after("+7+2");
        DUE.is("batch", x.batch(), 8);
        DUE.is("2 comes first", x.member(2, 0), 16);
        DUE.is("7 goes to the other side", x.member(7, 0), 24);
        DUE.is("none comes any more", x.count(1), 0);
        int[] nodes = {24, 16, 12, 8, 6, 4, 3, 2, 1};
        int[] holders = {0x80, 4, 0x80, 4, 0x80, 4, 0x80, 4, 0x84};
        for (int k = 0; k < 9; k++) {
            DUE.is("node of key " + k, x.key(k, 0), nodes[k]);
            DUE.is("holders of key " + k, x.key(k, 3), holders[k]);
        }
        int[] inside = {2, 3, 4, 5, 6, 7, 8, 8};
        int[] under = {0, 1, 2, 3, 4, 5, 7, 6};
        for (int i = 0; i < 8; i++) {
            DUE.is("key in letter " + i, x.letter(i, 0), inside[i]);
            DUE.is("key over letter " + i, x.letter(i, 1), under[i]);
        }
    }

    private static void batchTakesLeftLeaves() {
        KeyTrees x = Trees.whole();
        Trees.tell(x, "-3-9-c");
        x.batch();
        DUE.is("thirteen sit", x.count(0), 0xffff & ~(1 << 3 | 1 << 9 | 1 << 12));
        Trees.tell(x, "-0-1+c+3!");
        DUE.is("3 takes the least leaf left, 0's", x.member(3, 0), 16);
        DUE.is("c takes the other leaf left, 1's", x.member(12, 0), 24);
        Trees.tell(x, "-f+0+1!");
        DUE.is("0 takes the leaf left now, the greatest", x.member(0, 0), 31);
        // beneath 2 sit seven (19 is free), beneath 3 six (25 and 28 are free), three each beneath 6 and 7
        DUE.is("1 goes where fewer sit", x.member(1, 0), 25);
    }

    private static void batchGoesWhereFewerSit() {
        KeyTrees x = new KeyTrees();
        int[] leaves = {16, 24, 20, 28, 18, 26, 22, 30, 17, 25, 21, 29, 19, 27, 23, 31};
        for (int m = 0; m < 16; m++) {
            x.come(15 - m);
            x.batch();
            DUE.is("leaf of the " + m + "th", x.member(15 - m, 0), leaves[m]);
        }
        DUE.is("all sit", x.count(0), 0xffff);
        DUE.is("a key for each node", x.node(31, 0) > x.node(30, 0) ? 1 : 0, 1);
    }

    private static void batchOfLeavingAlone() {
        KeyTrees x = Trees.after("+0+1!-1");
        DUE.is("letters as 1 leaves", x.batch(), 1);
        DUE.is("new keys for 1 alone", x.count(4), 10);
        DUE.is("the key is node 1's", x.key(9, 0), 1);
        DUE.is("node 3 is not live", x.node(3, 0), KeyTrees.NONE);
        DUE.is("node 24 is not live", x.node(24, 0), KeyTrees.NONE);
        DUE.is("node 2 stays", x.node(2, 0), 7);
        x.leave(0);
        DUE.is("the last one leaves", x.batch(), 0);
        DUE.is("no new key", x.count(4), 10);
        DUE.is("two batches and one", x.count(6), 3);
        DUE.is("no group key", x.node(1, 0), KeyTrees.NONE);
        x.come(2);
        DUE.is("one comes to an empty tree", x.batch(), 4);
        DUE.is("it sits at 16", x.member(2, 0), 16);
    }

    private static void batchIsRefused() {
        KeyTrees x = new KeyTrees();
        DUE.is("nothing to change", x.batch(), KeyTrees.NOT);
        Trees.tell(x, "+0+1+2+3+4+5+6+7+8+9+a+b+c+d+e+f!");
        DUE.is("nothing to change any more", x.batch(), KeyTrees.NOT);
        // all who sit leave and come: 31 keys and 30 letters at a time, up to 155 and 150
        for (int round = 0; round < 4; round++) {
            Trees.tell(x, "-0-1-2-3-4-5-6-7-8-9-a-b-c-d-e-f!");
            Trees.tell(x, "+0+1+2+3+4+5+6+7+8+9+a+b+c+d+e+f!");
        }
        DUE.is("keys", x.count(4), 155);
        DUE.is("letters", x.count(5), 150);
        x.leave(0);
        DUE.is("157 letters", x.batch(), 7);
        Trees.tell(x, "-1-2");
        int due = x.due(0);
        DUE.is("a batch goes over the limit", x.batch(), due);
        DUE.is("letters over the limit", x.count(5), 157 + due);
        DUE.is("not before full", x.batch(), KeyTrees.NOT);
        x.leave(3);
        int doings = x.count(8);
        DUE.is("full", x.batch(), KeyTrees.FULL);
        DUE.is("full changes nothing", x.count(2), 8);
        DUE.is("full is no doing", x.count(8), doings);
        DUE.is("due all the same", x.due(0) > 0 ? 1 : 0, 1);
        fullOfKeys();
        fullOfLetters();
    }

    /** One member that comes makes 5 keys and 4 letters each time, so both limits are met at once. */
    private static void fullOfKeys() {
        KeyTrees x = new KeyTrees();
        for (int round = 0; round < 39; round++) {
            x.come(0);
            x.batch();
            x.leave(0);
            DUE.is("leaving of the only one", x.batch(), 0);
        }
        DUE.is("195 keys", x.count(4), 195);
        DUE.is("156 letters", x.count(5), 156);
        x.come(0);
        DUE.is("let in below the limits", x.batch(), 4);
        DUE.is("200 keys", x.count(4), 200);
        DUE.is("160 letters", x.count(5), 160);
        x.leave(0);
        DUE.is("full, though it would make none", x.batch(), KeyTrees.FULL);
        DUE.is("it sits yet", x.count(0), 1);
        DUE.is("begun anew", x.begin(), 200);
        x.come(0);
        DUE.is("full no more", x.batch(), 4);
    }

    /** 160 letters at 199 keys, as 8 letters come with 9 keys at first; and 159 letters, as 15 do. */
    private static void fullOfLetters() {
        KeyTrees x = Trees.after("+0+1!-0-1!");
        comeAlone(x, 38);
        DUE.is("199 keys", x.count(4), 199);
        DUE.is("160 letters", x.count(5), 160);
        x.come(5);
        DUE.is("full by letters alone", x.batch(), KeyTrees.FULL);
        DUE.is("it is coming yet", x.count(1), 32);
        x = Trees.after("+0+1!-1!+1!-1!-0!");
        comeAlone(x, 36);
        DUE.is("159 letters", x.count(5), 159);
        Trees.tell(x, "+0+1+2+3+4+5+6+7+8+9+a+b+c+d+e+f");
        DUE.is("a whole tree is let in", x.batch(), 30);
        DUE.is("189 letters", x.count(5), 189);
        DUE.is("all read the last of them", x.node(1, 2), 0xffff);
    }

    /** 0 comes so often alone, leaving between: 5 keys and 4 letters each time. */
    private static void comeAlone(KeyTrees x, int times) {
        for (int round = 0; round < times; round++) {
            if (x.member(0, 0) != KeyTrees.NONE) {
                x.leave(0);
                x.batch();
            }
            x.come(0);
            x.batch();
        }
        // with 160 letters the leaving is refused already
        x.leave(0);
        x.batch();
    }

    private static void readingOfBatches() {
        KeyTrees x = Trees.after("+0+1!");
        DUE.is("0 holds the group key", x.member(0, 2), 1);
        DUE.is("0 holds 5 keys", x.member(0, 1), 5);
        Trees.tell(x, "-1!");
        DUE.is("1 holds what it held", x.member(1, 1), 5);
        DUE.is("1 does not hold the new one", x.member(1, 2), 0);
        Trees.tell(x, "+1!");
        DUE.is("1 comes again, and opens its new letters", x.member(1, 1), 10);
        DUE.is("0 holds new ones of node 1", x.member(0, 1), 7);
        DUE.is("all hold the group key", x.node(1, 2), 3);
        DUE.is("1 never gets the key between", x.key(9, 3), 1);
    }

    private static void late() {
        KeyTrees x = Trees.after("+0+1+2+3!");
        DUE.is("falls asleep", x.late(3, 1), 0);
        DUE.is("is late", x.member(3, 3), 1);
        DUE.is("so already", x.late(3, 1), KeyTrees.NOT);
        DUE.is("awake already", x.late(2, 0), KeyTrees.NOT);
        DUE.is("never sat", x.late(4, 1), KeyTrees.NOT);
        DUE.is("never sat, wakes", x.late(4, 0), KeyTrees.NOT);
        DUE.is("bad v", x.late(3, 2), KeyTrees.BAD);
        DUE.is("bad v below", x.late(3, -1), KeyTrees.BAD);
        DUE.is("bad m", x.late(-1, 0), KeyTrees.BAD);
        DUE.is("bad m above", x.late(16, 0), KeyTrees.BAD);
        DUE.is("bad ahead of not", x.late(4, 3), KeyTrees.BAD);
        x.leave(1);
        DUE.is("batch", x.batch(), 3);
        DUE.is("unread", x.member(3, 4), 3);
        DUE.is("awake ones have read", x.member(2, 4), 0);
        DUE.is("without the group key", x.member(3, 2), 0);
        DUE.is("count 7", x.count(7), 8);
        DUE.is("wakes: node 3's and node 1's keys", x.late(3, 0), 2);
        DUE.is("with the group key", x.member(3, 2), 1);
        DUE.is("read", x.member(3, 4), 0);
        DUE.is("no more late", x.count(3), 0);
        x.late(3, 1);
        DUE.is("wakes, nothing came", x.late(3, 0), 0);
        DUE.is("a coming one can't sleep", x.come(5) + x.late(5, 1), 1 + KeyTrees.NOT);
    }

    private static void lateEndsByLeaving() {
        KeyTrees x = Trees.sleeper();
        x.leave(3);
        DUE.is("told to leave, and late yet", x.count(3), 8);
        DUE.is("unread yet", x.member(3, 4), 3);
        x.batch();
        DUE.is("left, and late no more", x.count(3), 0);
        DUE.is("left, nothing unread", x.member(3, 4), KeyTrees.NONE);
        DUE.is("left, wakes not", x.late(3, 0), KeyTrees.NOT);
        DUE.is("what went by is not read", x.key(15, 3), 0);
    }

    private static void lateEndsByComing() {
        KeyTrees x = Trees.sleeper();
        Trees.tell(x, "-3!+3!");
        DUE.is("it comes awake", x.member(3, 3), 0);
        DUE.is("it reads its own batch", x.member(3, 4), 0);
        DUE.is("it holds the group key", x.member(3, 2), 1);
        DUE.is("it reads nothing of ahead", x.key(15, 3), 0);
        DUE.is("letters ahead of its coming stay shut", x.key(16, 3), 5);
    }

    private static void lose() {
        KeyTrees x = Trees.sleeper();
        DUE.is("awake", x.lose(2, 1), KeyTrees.NOT);
        DUE.is("doesn't sit", x.lose(1, 1), KeyTrees.NOT);
        DUE.is("n 0", x.lose(3, 0), KeyTrees.BAD);
        DUE.is("n 41", x.lose(3, 41), KeyTrees.BAD);
        DUE.is("m -1", x.lose(-1, 1), KeyTrees.BAD);
        DUE.is("m 16", x.lose(16, 1), KeyTrees.BAD);
        DUE.is("bad ahead of not", x.lose(2, 0), KeyTrees.BAD);
        DUE.is("one lost", x.lose(3, 1), 1);
        DUE.is("two unread", x.member(3, 4), 2);
        DUE.is("as many as there are", x.lose(3, 40), 2);
        DUE.is("none unread", x.member(3, 4), 0);
        int doings = x.count(8);
        DUE.is("none to lose", x.lose(3, 40), 0);
        DUE.is("that is a doing, too", x.count(8), Math.min(6, doings + 1));
        DUE.is("late yet", x.member(3, 3), 1);
        DUE.is("wakes, and opens none", x.late(3, 0), 0);
        DUE.is("lacks the group key", x.count(7), 8);
    }

    private static void lettersLostStayLost() {
        KeyTrees x = Trees.sleeper();
        x.lose(3, 1);
        DUE.is("what was behind is shut", x.late(3, 0), 0);
        Trees.tell(x, "-0!");
        DUE.is("the next batch is read, but shut", x.member(3, 2), 0);
        DUE.is("it still holds node 7's", x.key(8, 3), 8);
        DUE.is("node 3's was lost", x.key(15, 3), 0);
    }

    private static void mend() {
        KeyTrees x = Trees.sleeper();
        x.lose(3, 1);
        x.late(3, 0);
        DUE.is("mend", x.mend(3), 2);
        DUE.is("letters", x.count(5), 19);
        DUE.is("first node 3's", x.letter(17, 0), 15);
        DUE.is("then node 1's", x.letter(18, 0), 16);
        DUE.is("under the leaf's", x.letter(17, 1), 0);
        DUE.is("under the leaf's, too", x.letter(18, 1), 0);
        DUE.is("of no batch", x.letter(17, 2), KeyTrees.NONE);
        DUE.is("it reads them", x.member(3, 4), 0);
        DUE.is("it holds the group key", x.member(3, 2), 1);
        DUE.is("node 3's holders", x.node(3, 2), 8);
        DUE.is("mended all", x.mend(3), KeyTrees.NOT);
        DUE.is("no batch more", x.count(6), 2);
    }

    /** 2 sits at 20, and sleeps as 1 leaves 24: node 1's key alone goes by it. */
    private static void mendOfOne() {
        KeyTrees x = Trees.after("+0+1+2+3!");
        x.late(2, 1);
        Trees.tell(x, "-1!");
        x.lose(2, 40);
        x.late(2, 0);
        DUE.is("one", x.mend(2), 1);
        DUE.is("node 1's", x.letter(x.count(5) - 1, 0), x.node(1, 0));
        DUE.is("under 20's", x.letter(x.count(5) - 1, 1), x.node(20, 0));
        DUE.is("holds it", x.member(2, 2), 1);
        DUE.is("mended all", x.mend(2), KeyTrees.NOT);
    }

    /** 4 sits at 18, and sleeps as 0 leaves 16: the keys of 4, 2 and 1 go by it, but not 9's. */
    private static void mendOfThree() {
        KeyTrees x = Trees.after("+0+1+2+3+4!");
        x.late(4, 1);
        Trees.tell(x, "-0!");
        int letters = x.count(5);
        x.lose(4, 40);
        x.late(4, 0);
        DUE.is("three", x.mend(4), 3);
        DUE.is("9's is still held", x.node(9, 2), 16);
        for (int n = 0; n < 3; n++) {
            DUE.is("from below upwards", x.letter(letters + n, 0), x.node(4 >> n, 0));
            DUE.is("under 18's", x.letter(letters + n, 1), x.node(18, 0));
            DUE.is("holds it", x.node(4 >> n, 2) >> 4 & 1, 1);
        }
        DUE.is("no more", x.count(5), letters + 3);
    }

    private static void mendedForSleepers() {
        KeyTrees x = Trees.sleeper();
        x.lose(3, 40);
        x.late(3, 0);
        x.late(2, 1);
        x.mend(3);
        DUE.is("a sleeper hasn't read them", x.member(2, 4), 2);
        DUE.is("awake ones have", x.member(0, 4), 0);
        DUE.is("it can't open them", x.late(2, 0), 0);
    }

    private static void mendIsRefused() {
        KeyTrees x = Trees.sleeper();
        DUE.is("late", x.mend(3), KeyTrees.NOT);
        DUE.is("holds all", x.mend(0), KeyTrees.NOT);
        DUE.is("doesn't sit", x.mend(1), KeyTrees.NOT);
        DUE.is("bad", x.mend(-1), KeyTrees.BAD);
        DUE.is("bad above", x.mend(16), KeyTrees.BAD);
        DUE.is("refused is no doing", x.count(8), 4);
        mendFull();
    }

    private static void mendFull() {
        KeyTrees x = Trees.whole();
        x.late(5, 1);
        for (int round = 0; round < 12 && x.count(5) < 160; round++) {
            Trees.tell(x, round % 2 == 0 ? "-0-1-2-3!" : "+0+1+2+3!");
        }
        DUE.is("letters enough", x.count(5) >= 160 ? 1 : 0, 1);
        DUE.is("not ahead of full", x.mend(5), KeyTrees.NOT);
        x.lose(5, 40);
        x.lose(5, 40);
        x.lose(5, 40);
        x.lose(5, 40);
        x.late(5, 0);
        DUE.is("full", x.mend(5), KeyTrees.FULL);
        DUE.is("holds all: not ahead of full", x.mend(6), KeyTrees.NOT);
    }

    private static void begin() {
        KeyTrees x = new KeyTrees();
        DUE.is("nothing to begin", x.begin(), KeyTrees.NOT);
        x.come(3);
        DUE.is("one is coming", x.begin(), 0);
        DUE.is("it comes no more", x.count(1), 0);
        DUE.is("nothing again", x.begin(), KeyTrees.NOT);
        x = Trees.sleeper();
        x.seed(77);
        x.leave(2);
        x.come(9);
        DUE.is("17 keys", x.begin(), 17);
        for (int what = 0; what <= 7; what++) DUE.is("begun, count " + what, x.count(what), 0);
        DUE.is("the draw stays", x.seed(77), 77);
        DUE.is("a doing", x.count(8), 6);
        for (int v = 1; v < 32; v++) DUE.is("no key at " + v, x.node(v, 0), KeyTrees.NONE);
        DUE.is("none holds", x.member(0, 1), 0);
        DUE.is("none sits", x.member(0, 0), KeyTrees.NONE);
        DUE.is("no key 0", x.key(0, 0), KeyTrees.BAD);
        DUE.is("no letter 0", x.letter(0, 0), KeyTrees.BAD);
        Trees.tell(x, "+f!");
        DUE.is("batches from 0 on", x.letter(0, 2), 0);
        DUE.is("keys from 0 on", x.key(0, 0), 16);
        DUE.is("0 never came", x.why(0, 0), 1);
        DUE.is("no holder of ahead", x.key(0, 3), 0x8000);
        DUE.is("leaf and those above", x.member(15, 1), 5);
    }

    private static void member() {
        KeyTrees x = Trees.sleeper();
        x.come(9);
        x.leave(2);
        DUE.is("leaf", x.member(0, 0), 16);
        DUE.is("leaf of 3", x.member(3, 0), 28);
        DUE.is("left", x.member(1, 0), KeyTrees.NONE);
        DUE.is("keys of 0", x.member(0, 1), 6);
        DUE.is("keys of 1", x.member(1, 1), 5);
        DUE.is("keys of 3", x.member(3, 1), 5);
        DUE.is("keys of 9", x.member(9, 1), 0);
        DUE.is("group key", x.member(0, 2), 1);
        DUE.is("no group key held", x.member(3, 2), 0);
        DUE.is("late", x.member(3, 3), 1);
        DUE.is("not late", x.member(0, 3), 0);
        DUE.is("left, not late", x.member(1, 3), 0);
        DUE.is("unread of awake", x.member(0, 4), 0);
        DUE.is("unread of late", x.member(3, 4), 3);
        DUE.is("unread of none", x.member(9, 4), KeyTrees.NONE);
        DUE.is("coming", x.member(9, 5), 1);
        DUE.is("leaving", x.member(2, 5), 2);
        DUE.is("neither", x.member(0, 5), 0);
        DUE.is("bad what", x.member(0, 6), KeyTrees.BAD);
        DUE.is("bad what below", x.member(0, -1), KeyTrees.BAD);
        DUE.is("bad m", x.member(16, 0), KeyTrees.BAD);
        DUE.is("bad m below", x.member(-1, 0), KeyTrees.BAD);
        Trees.tell(x, "-0-2-3");
        x.undo();
        Trees.tell(x, "-0-3!");
        x.leave(9);
        x.batch();
        DUE.is("no group key at all", x.member(9, 2), KeyTrees.NONE);
        DUE.is("keys are never lost", x.member(0, 1), 6);
    }

    private static void node() {
        KeyTrees x = Trees.sleeper();
        DUE.is("key of 1", x.node(1, 0), 16);
        DUE.is("key of 3", x.node(3, 0), 15);
        DUE.is("key of 28", x.node(28, 0), 0);
        DUE.is("no key of 24", x.node(24, 0), KeyTrees.NONE);
        DUE.is("no key of 31", x.node(31, 0), KeyTrees.NONE);
        DUE.is("sitters at 1", x.node(1, 1), 13);
        DUE.is("sitters beneath 2", x.node(2, 1), 5);
        DUE.is("sitters beneath 3", x.node(3, 1), 8);
        DUE.is("sitters beneath 7", x.node(7, 1), 8);
        DUE.is("sitters at 28", x.node(28, 1), 8);
        DUE.is("sitters at 24", x.node(24, 1), 0);
        DUE.is("holders of 1's", x.node(1, 2), 5);
        DUE.is("holders of 3's", x.node(3, 2), 0);
        DUE.is("holders of 24's", x.node(24, 2), KeyTrees.NONE);
        DUE.is("bad v", x.node(0, 0), KeyTrees.BAD);
        DUE.is("bad v above", x.node(32, 1), KeyTrees.BAD);
        DUE.is("bad v below", x.node(-1, 1), KeyTrees.BAD);
        DUE.is("bad what", x.node(1, 3), KeyTrees.BAD);
        DUE.is("bad what below", x.node(1, -1), KeyTrees.BAD);
    }

    private static void key() {
        KeyTrees x = Trees.sleeper();
        DUE.is("node", x.key(15, 0), 3);
        DUE.is("batch", x.key(14, 1), 0);
        DUE.is("batch 1", x.key(15, 1), 1);
        DUE.is("now", x.key(15, 2), 1);
        DUE.is("replaced", x.key(14, 2), 0);
        DUE.is("of a node that is not live", x.key(1, 2), 0);
        DUE.is("holders", x.key(14, 3), 15);
        DUE.is("holders of none", x.key(15, 3), 0);
        DUE.is("last", x.key(16, 0), 1);
        DUE.is("bad k", x.key(17, 0), KeyTrees.BAD);
        DUE.is("bad k below", x.key(-1, 0), KeyTrees.BAD);
        DUE.is("bad k above", x.key(Integer.MAX_VALUE, 0), KeyTrees.BAD);
        DUE.is("bad what", x.key(0, 4), KeyTrees.BAD);
        DUE.is("bad what below", x.key(0, -1), KeyTrees.BAD);
    }

    private static void letter() {
        KeyTrees x = Trees.sleeper();
        DUE.is("in the first", x.letter(0, 0), 4);
        DUE.is("over the first", x.letter(0, 1), 0);
        DUE.is("batch of the first", x.letter(0, 2), 0);
        DUE.is("in 14", x.letter(14, 0), 15);
        DUE.is("over 14", x.letter(14, 1), 8);
        DUE.is("batch of 14", x.letter(14, 2), 1);
        DUE.is("2's ahead of 3's", x.letter(15, 1), 13);
        DUE.is("3's behind", x.letter(16, 1), 15);
        DUE.is("bad i", x.letter(17, 0), KeyTrees.BAD);
        DUE.is("bad i below", x.letter(-1, 0), KeyTrees.BAD);
        DUE.is("bad what", x.letter(0, 3), KeyTrees.BAD);
        DUE.is("bad what below", x.letter(0, -1), KeyTrees.BAD);
    }

    private static void count() {
        KeyTrees x = Trees.sleeper();
        x.come(15);
        x.leave(0);
        x.leave(3);
        int[] due = {13, 0x8000, 9, 8, 17, 17, 2, 8, 6};
        for (int what = 0; what <= 8; what++) DUE.is("count " + what, x.count(what), due[what]);
        DUE.is("bad", x.count(9), KeyTrees.BAD);
        DUE.is("bad below", x.count(-1), KeyTrees.BAD);
    }
}
