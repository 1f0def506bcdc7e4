/** Promises 14 to 17: what is opened. */
public final class OpenedTest {
    private static final Due DUE = new Due("OpenedTest");

    private OpenedTest() {
    }

    public static void main(String[] args) {
        why();
        whyOfOneThatCameAgain();
        opens();
        opensByMendedLetters();
        due();
        dueLeavesAllAsItIs();
        luck();
        luckOfTheLastBatch();
        DUE.end();
    }

    private static void why() {
        KeyTrees x = Trees.sleeper();
        DUE.is("holds it", x.why(0, 15), 0);
        DUE.is("never came", x.why(9, 15), 1);
        x.come(9);
        DUE.is("only is coming", x.why(9, 15), 1);
        DUE.is("never lost: left, and holds it", x.why(1, 1), 0);
        DUE.is("left: made ahead of its leaving", x.why(1, 0), 4);
        DUE.is("left: made as it left", x.why(1, 16), 3);
        DUE.is("left: an old key in a new letter", x.why(1, 15), 4);
        DUE.is("sits: another's", x.why(3, 15), 4);
        DUE.is("sits: not read yet", x.why(3, 16), 4);
        x.batch();
        DUE.is("came behind", x.why(9, 16), 2);
        DUE.is("came behind: all the ones ahead", x.why(9, 0), 2);
        DUE.is("left: made behind", x.why(1, x.count(5) - 1), 3);
        DUE.is("bad m", x.why(16, 0), KeyTrees.BAD);
        DUE.is("bad m below", x.why(-1, 0), KeyTrees.BAD);
        DUE.is("bad i", x.why(0, x.count(5)), KeyTrees.BAD);
        DUE.is("bad i below", x.why(0, -1), KeyTrees.BAD);
    }

    private static void whyOfOneThatCameAgain() {
        KeyTrees x = Trees.after("+0+1!-1!+1!");
        // 1 came in batch 0, left in 1, came in 2; key 9 of node 1 was made in batch 1
        DUE.is("made between", x.why(1, 8), 2);
        DUE.is("held of old", x.why(1, 0), 0);
        DUE.is("of its own batch", x.why(1, 9), 0);
        Trees.tell(x, "-1!");
        DUE.is("left again: ahead of its last coming", x.why(1, 1), 2);
        int last = x.count(5) - 1;
        DUE.is("a key of batch 0 in a letter of now", x.why(1, last), 2);
        Trees.tell(x, "-0!+0!");
        DUE.is("made behind its last leaving", x.why(1, last + 1), 3);
    }

    private static void opens() {
        KeyTrees x = Trees.sleeper();
        DUE.is("held", x.opens(1, 14), 1);
        DUE.is("not ever", x.opens(1, 15), 0);
        DUE.is("key 0, held", x.opens(8, 0), 1);
        DUE.is("key 0, another's", x.opens(7, 0), 0);
        DUE.is("by letters unread", x.opens(8, 15), 1);
        DUE.is("by letters behind letters", x.opens(8, 16), 1);
        DUE.is("by one that left", x.opens(2, 16), 0);
        DUE.is("the old group key by one that left", x.opens(2, 14), 1);
        DUE.is("by two", x.opens(10, 16), 1);
        DUE.is("by none", x.opens(0, 14), 0);
        DUE.is("by all", x.opens(0xffff, 16), 1);
        DUE.is("by those that never came", x.opens(0xfff0, 14), 0);
        DUE.is("bad set", x.opens(-1, 0), KeyTrees.BAD);
        DUE.is("bad set above", x.opens(0x10000, 0), KeyTrees.BAD);
        DUE.is("bad k", x.opens(1, 17), KeyTrees.BAD);
        DUE.is("bad k below", x.opens(1, -1), KeyTrees.BAD);
        DUE.is("none holds more for it", x.key(15, 3), 0);
        x.lose(3, 3);
        x.late(3, 0);
        DUE.is("lost letters can be opened", x.opens(8, 16), 1);
        DUE.is("but were not read", x.member(3, 2), 0);
    }

    private static void opensByMendedLetters() {
        KeyTrees x = Trees.after("+0+1+2+3+4!");
        x.late(4, 1);
        Trees.tell(x, "-0!-1!");
        x.lose(4, 40);
        x.late(4, 0);
        int groupKey = x.node(1, 0);
        DUE.is("lost, and opened", x.opens(16, groupKey), 1);
        DUE.is("0 left ahead of it", x.opens(1, groupKey), 0);
        x.mend(4);
        DUE.is("mended, and opened", x.opens(16, groupKey), 1);
        DUE.is("shut to 0, mended or not", x.opens(1, groupKey), 0);
        DUE.is("shut to 0 and 1", x.opens(3, groupKey), 0);
        for (int k = 0; k < x.count(4); k++) {
            // beside its own, 4 opens what was made above its leaf, and that since it came
            int node = x.key(k, 0);
            int due = node == 18 || node == 9 || node == 4 || node <= 2 ? 1 : 0;
            DUE.is("key " + k + " of node " + node, x.opens(16, k), due);
        }
    }

    private static void due() {
        KeyTrees x = new KeyTrees();
        DUE.is("nothing", x.due(0), 0);
        DUE.is("nothing, single", x.due(1), 0);
        DUE.is("bad", x.due(2), KeyTrees.BAD);
        DUE.is("bad below", x.due(-1), KeyTrees.BAD);
        x.come(0);
        DUE.is("one", x.due(0), 4);
        DUE.is("one, single", x.due(1), 4);
        x.come(1);
        DUE.is("two", x.due(0), 8);
        DUE.is("two, single", x.due(1), 9);
        x.come(2);
        // 2 sits at 20: node 2 has two beneath it then, and node 1
        DUE.is("three", x.due(0), 11);
        DUE.is("three, single", x.due(1), 15);
        DUE.is("as due", x.batch(), 11);
        x.leave(0);
        x.leave(1);
        x.come(3);
        // at once 3 takes 16: 4 nodes above it, and node 1; 3 is not live
        DUE.is("two leave, one comes", x.due(0), 5);
        // 0 leaves: 2 and 1, 1 + 2; 1 leaves: 1 alone, 1; 3 comes to 24: 1 + 1 + 1 + 2
        DUE.is("two leave, one comes, single", x.due(1), 9);
        DUE.is("as due again", x.batch(), 5);
        DUE.is("3 sits at 16", x.member(3, 0), 16);
        Trees.tell(x, "-2-3");
        DUE.is("all leave", x.due(0), 0);
        DUE.is("all leave, single", x.due(1), 2);
    }

    private static void dueLeavesAllAsItIs() {
        KeyTrees x = Trees.sleeper();
        x.come(9);
        x.leave(2);
        long before = Trees.look(x);
        x.due(0);
        x.due(1);
        DUE.isTrue("due changes nothing", Trees.look(x) == before);
        DUE.is("9 doesn't sit", x.member(9, 0), KeyTrees.NONE);
    }

    private static void luck() {
        KeyTrees x = Trees.after("+3!");
        int[] above = {1, 6561, 256, 2401, 81, 1, 16, 81, 1, 1, 0};
        int[] below = {1, 10000, 625, 10000, 625, 16, 625, 10000, 625, 10000, 1};
        for (int c = 0; c <= 10; c++) {
            DUE.is("above by " + c, x.luck(3, c, 0), above[c]);
            DUE.is("below by " + c, x.luck(3, c, 1), below[c]);
        }
        DUE.is("doesn't sit", x.luck(2, 1, 0), KeyTrees.NOT);
        DUE.is("bad m", x.luck(16, 1, 0), KeyTrees.BAD);
        DUE.is("bad m below", x.luck(-1, 1, 0), KeyTrees.BAD);
        DUE.is("bad c", x.luck(3, 11, 0), KeyTrees.BAD);
        DUE.is("bad c below", x.luck(3, -1, 0), KeyTrees.BAD);
        DUE.is("bad what", x.luck(3, 1, 2), KeyTrees.BAD);
        DUE.is("bad what below", x.luck(3, 1, -1), KeyTrees.BAD);
        DUE.is("bad ahead of not", x.luck(2, 11, 0), KeyTrees.BAD);
        x.come(2);
        DUE.is("only is coming", x.luck(2, 1, 0), KeyTrees.NOT);
        x.leave(3);
        x.batch();
        DUE.is("left", x.luck(3, 1, 0), KeyTrees.NOT);
    }

    private static void luckOfTheLastBatch() {
        KeyTrees x = Trees.sleeper();
        DUE.is("0 needs one, under 2's", x.luck(0, 1, 0), 9);
        DUE.is("0 needs one of 10", x.luck(0, 1, 1), 10);
        DUE.is("3 needs two", x.luck(3, 1, 0), 81);
        DUE.is("3 needs two of 100", x.luck(3, 1, 1), 100);
        x.lose(3, 40);
        x.late(3, 0);
        x.mend(3);
        DUE.is("mended letters are of none", x.luck(3, 1, 0), 81);
        x.come(9);
        DUE.is("one that is coming alters nothing", x.luck(3, 1, 0), 81);
    }
}
