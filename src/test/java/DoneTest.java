/** Promises 18 to 24: texts, draws, what is undone, images. */
public final class DoneTest {
    private static final Due DUE = new Due("DoneTest");

    private DoneTest() {
    }

    public static void main(String[] args) {
        type();
        faults();
        read();
        readStopsAtTheFirstRefused();
        readOfNoEvent();
        drift();
        driftTurns();
        undo();
        undoOfEachDoing();
        undoOfTurns();
        undoKeepsTheRest();
        seed();
        image();
        imageOfWhatIsWrittenOver();
        imageKeepsWhatMayBeUndone();
        DUE.end();
    }

    private static void type() {
        KeyTrees x = new KeyTrees();
        DUE.is("31", x.type(31), KeyTrees.BAD);
        DUE.is("127", x.type(127), KeyTrees.BAD);
        DUE.is("-1", x.type(-1), KeyTrees.BAD);
        DUE.is("a far one that ends like one", x.type(65536 + '!'), KeyTrees.BAD);
        DUE.is("32", x.type(32), 1);
        DUE.is("126", x.type(126), 2);
        for (int i = 3; i <= 90; i++) DUE.is("letter " + i, x.type('!'), i);
        DUE.is("full", x.type('!'), KeyTrees.FULL);
        DUE.is("bad ahead of full", x.type(31), KeyTrees.BAD);
        DUE.is("the tape stays", x.read(), -21);
        DUE.is("and is empty then", x.type('!'), 1);
    }

    private static void faults() {
        String[] texts = {"", " ", "   ", "+", "+ ", "-", " +", "0", " 0", "+g", "+ g", "+A", "++0", "+-", "+!", "-!",
            "+0-", "+0 - ", "+01", "+0 1", "!x", "! x", "!!+", "+/", "+:", "+`", "x", "~", "+0,+1", "+f!-f!g"};
        int[] places = {0, 1, 3, 1, 2, 1, 2, 0, 1, 1, 2, 1, 1, 1, 1, 1,
            3, 5, 2, 3, 1, 2, 3, 1, 1, 1, 0, 0, 2, 6};
        KeyTrees x = new KeyTrees();
        for (int t = 0; t < texts.length; t++) {
            DUE.is("'" + texts[t] + "'", Trees.tell(x, texts[t]), -20 - places[t]);
            DUE.is("none of it is done", x.count(1), 0);
        }
        DUE.is("a fault is no doing", x.count(8), 0);
        DUE.is("the tape is empty by a fault", x.type(' '), 1);
        for (int i = 2; i <= 90; i++) x.type(' ');
        DUE.is("all blank", x.read(), -110);
    }

    private static void read() {
        KeyTrees x = new KeyTrees();
        DUE.is("one", Trees.tell(x, "+0"), 1);
        DUE.is("blanks between", Trees.tell(x, "  + 9 +f +  a  "), 3);
        DUE.is("coming", x.count(1), 1 | 1 << 9 | 1 << 15 | 1 << 10);
        DUE.is("a batch and behind", Trees.tell(x, "!-0+1 - f"), 4);
        DUE.is("sitting", x.count(0), 1 | 1 << 9 | 1 << 15 | 1 << 10);
        DUE.is("leaving", x.count(2), 1 | 1 << 15);
        DUE.is("coming then", x.count(1), 2);
        DUE.is("each text is one doing", x.count(8), 3);
        DUE.is("the tape is empty", x.type('!'), 1);
    }

    private static void readStopsAtTheFirstRefused() {
        KeyTrees x = new KeyTrees();
        DUE.is("a coming one again", Trees.tell(x, "+1+1+2"), 1);
        DUE.is("what is behind isn't done", x.count(1), 2);
        DUE.is("leaving of one that doesn't sit", Trees.tell(x, "!-2+3"), 1);
        DUE.is("what is behind isn't done, either", x.count(1), 0);
        DUE.is("a batch of nothing", Trees.tell(x, "-1!!+2"), 2);
        DUE.is("so 2 isn't told", x.count(1), 0);
    }

    private static void readOfNoEvent() {
        KeyTrees x = new KeyTrees();
        DUE.is("no event is done", Trees.tell(x, "!"), 0);
        DUE.is("a doing all the same", x.count(8), 1);
        DUE.is("undone", x.undo(), 0);
        x = Trees.whole();
        for (int round = 0; round < 5 && x.count(5) < 160; round++) {
            Trees.tell(x, "-0-1-2-3-4-5-6-7!+0+1+2+3+4+5+6+7!");
        }
        DUE.isTrue("the book is full", x.count(5) >= 160);
        DUE.is("a batch is refused in a text, too", Trees.tell(x, "-0!-1"), 1);
    }

    private static void drift() {
        KeyTrees x = new KeyTrees();
        DUE.is("0", x.drift(0), KeyTrees.BAD);
        DUE.is("-1", x.drift(-1), KeyTrees.BAD);
        DUE.is("41", x.drift(41), KeyTrees.BAD);
        DUE.is("bad draws nothing", x.seed(1), 1);
        x.drift(1);
        DUE.is("one draw", x.seed(1), 1103527590L);
        x.drift(2);
        DUE.is("two draws", x.seed(1), 377401575L);
        DUE.is("answers who sits", x.drift(40), x.count(0));
    }

    /** A seed for each kind of turn, found by going back from the draw that is wanted. */
    private static void driftTurns() {
        KeyTrees x = Trees.after("+0+1+2+3!");
        turn(x, 5 << 4 | 0);
        DUE.is("5 is told to come", x.count(1), 32);
        turn(x, 5 << 4 | 3);
        DUE.is("5 is coming already", x.count(1), 32);
        turn(x, 2 << 4 | 1);
        DUE.is("2 sits: it is told to leave", x.count(2), 4);
        turn(x, 2 << 4 | 2 | 1 << 11);
        DUE.is("2 is leaving already", x.count(2), 4);
        turn(x, 9 << 4 | 4);
        DUE.is("a batch", x.count(6), 2);
        DUE.is("5 sits", x.count(0), 43);
        turn(x, 9 << 4 | 5);
        DUE.is("a batch of nothing", x.count(6), 2);
        turn(x, 7 << 4 | 0 | 8);
        turn(x, 1 << 4 | 5 | 8);
        DUE.is("a batch by 5", x.count(6), 3);
        turn(x, 3 << 4 | 6);
        DUE.is("3 falls asleep", x.count(3), 8);
        turn(x, 15 << 4 | 6);
        DUE.is("15 doesn't sit", x.count(3), 8);
        turn(x, 3 << 4 | 7);
        x.leave(1);
        x.batch();
        DUE.isTrue("3 has letters to read", x.member(3, 4) > 0);
        x.lose(3, 40);
        int letters = x.count(5);
        turn(x, 3 << 4 | 7);
        DUE.is("3 is late: nothing is mended", x.count(5), letters);
        turn(x, 3 << 4 | 6);
        DUE.is("3 wakes", x.count(3), 0);
        DUE.is("without the group key", x.count(7), 8);
        turn(x, 3 << 4 | 7 | 8);
        DUE.is("mended", x.count(7), 0);
        DUE.isTrue("by letters", x.count(5) > letters);
    }

    /** One turn whose x is as told. */
    private static void turn(KeyTrees x, int wanted) {
        x.seed(Trees.seedAheadOf((long) wanted << 16 | 4711));
        x.drift(1);
        DUE.is("the draw of x " + wanted, x.seed(1), (long) wanted << 16 | 4711);
    }

    private static void undo() {
        KeyTrees x = new KeyTrees();
        DUE.is("none", x.undo(), KeyTrees.NONE);
        for (int m = 0; m < 9; m++) x.come(m);
        DUE.is("six are known", x.count(8), 6);
        for (int left = 5; left >= 0; left--) {
            DUE.is("undo, " + left + " more", x.undo(), left);
            DUE.is("coming then", x.count(1), (1 << left + 3) - 1);
        }
        DUE.is("older ones are lost", x.undo(), KeyTrees.NONE);
        DUE.is("and stay done", x.count(1), 7);
        x.come(9);
        DUE.is("known anew", x.count(8), 1);
        DUE.is("undone anew", x.undo(), 0);
        DUE.is("coming as then", x.count(1), 7);
    }

    private static void undoOfEachDoing() {
        for (int doing = 0; doing < 9; doing++) {
            KeyTrees x = Trees.sleeper();
            x.come(9);
            long before = Trees.look(x);
            DUE.is("known ahead of doing " + doing, x.count(8), 5);
            DUE.isTrue("doing " + doing + " is done", done(x, doing) >= 0);
            DUE.is("known behind doing " + doing, x.count(8), 6);
            DUE.is("doing " + doing + " undone", x.undo(), 5);
            DUE.isTrue("doing " + doing + " leaves nothing", Trees.look(x) == before);
        }
    }

    private static int done(KeyTrees x, int doing) {
        switch (doing) {
            case 0: return x.come(8);
            case 1: return x.leave(3);
            case 2: return x.batch();
            case 3: return x.late(0, 1);
            case 4: return x.late(3, 0);
            case 5: return x.lose(3, 2);
            case 6: return x.begin();
            case 7: return x.drift(1);
            default: return Trees.tell(x, "-0-2+8!");
        }
    }

    private static void undoOfTurns() {
        KeyTrees x = new KeyTrees();
        x.seed(99);
        x.drift(5);
        DUE.is("each turn is a doing", x.count(8), 5);
        for (int left = 4; left >= 0; left--) DUE.is("turn undone", x.undo(), left);
        DUE.is("the draw is as ahead", x.seed(1), 99);
        Trees.tell(x, "+1+2!");
        x.seed(1234);
        x.drift(3);
        x.seed(5);
        x.undo();
        x.undo();
        x.undo();
        DUE.is("what was told since is undone, too", x.seed(1), 1234);
        x.drift(40);
        DUE.is("six turns are known", x.count(8), 6);
    }

    private static void undoKeepsTheRest() {
        KeyTrees x = new KeyTrees();
        x.come(1);
        x.type('+');
        x.sheet(2, 1, 5);
        x.image();
        x.come(2);
        x.undo();
        x.undo();
        DUE.is("the tape stays", x.type('7'), 2);
        DUE.is("sheets stay", x.drop(2), 5);
        DUE.is("images stay", x.restore(), 1);
        DUE.is("the image is of then", x.count(1), 2);
        KeyTrees y = Trees.sleeper();
        y.lose(3, 1);
        y.late(3, 0);
        y.mend(3);
        DUE.is("mended is undone", y.undo(), 5);
        DUE.is("no letters more", y.count(5), 17);
        DUE.is("not held again", y.member(3, 2), 0);
        DUE.is("waking is undone", y.undo(), 4);
        DUE.is("late again", y.count(3), 8);
        DUE.is("losing is undone", y.undo(), 3);
        DUE.is("unread again", y.member(3, 4), 3);
        DUE.is("waking then", y.late(3, 0), 2);
    }

    private static void seed() {
        KeyTrees x = new KeyTrees();
        DUE.is("at first", x.seed(0), 1);
        DUE.is("zero", x.seed(Integer.MAX_VALUE), 0);
        DUE.is("below", x.seed(-1), KeyTrees.BAD);
        DUE.is("least", x.seed(Integer.MIN_VALUE), KeyTrees.BAD);
        DUE.is("most stays", x.seed(1), Integer.MAX_VALUE);
        DUE.is("no doing", x.count(8), 0);
        x.seed(Integer.MAX_VALUE);
        x.drift(1);
        DUE.is("31 bits", x.seed(1), (Integer.MAX_VALUE * 1103515245L + 12345) & 0x7fffffffL);
    }

    private static void image() {
        KeyTrees x = new KeyTrees();
        DUE.is("none", x.restore(), KeyTrees.NONE);
        DUE.is("image of nothing", x.image(), 1);
        Trees.tell(x, "+0+1!");
        x.seed(55);
        DUE.is("restore", x.restore(), 1);
        DUE.is("nothing sits", x.count(0), 0);
        DUE.is("no keys", x.count(4), 0);
        DUE.is("draw", x.seed(1), 1);
        KeyTrees y = Trees.sleeper();
        y.seed(77);
        y.come(9);
        long then = Trees.look(y);
        y.image();
        Trees.tell(y, "-0-2!");
        y.late(3, 0);
        y.seed(1);
        y.type('+');
        y.sheet(1, 0, 7);
        DUE.is("restore", y.restore(), 1);
        DUE.isTrue("as it was then", Trees.look(y) == then);
        DUE.is("draw as then", y.seed(1), 77);
        DUE.is("the tape is as now", y.type('1'), 2);
        DUE.is("sheets are as now", y.drop(1), 7);
        y.begin();
        DUE.is("restore again", y.restore(), 1);
        DUE.is("as it was then again", y.count(4), 17);
        y.begin();
        y.image();
        y.come(4);
        y.restore();
        DUE.is("the latest image", y.count(4) + y.count(1), 0);
    }

    /** What is written over behind an image, or what is undone, is there again as it was. */
    private static void imageOfWhatIsWrittenOver() {
        KeyTrees x = Trees.sleeper();
        x.image();
        x.begin();
        Trees.tell(x, "+d+e!-d+c!+1!");
        Trees.tell(x, "-1!+d!-e!");
        asWithASleeper(x, x.restore(), 1);
        x.begin();
        Trees.tell(x, "+d+e!-d+c!+1!-1!+d!-e!");
        x.undo();
        asWithASleeper(x, x.undo(), 4);
    }

    private static void asWithASleeper(KeyTrees x, int answer, int due) {
        DUE.is("it is back", answer, due);
        DUE.is("node of key 0", x.key(0, 0), 28);
        DUE.is("batch of key 14", x.key(14, 1), 0);
        DUE.is("batch of key 15", x.key(15, 1), 1);
        DUE.is("key in letter 5", x.letter(5, 0), 9);
        int[] over = {0, 1, 2, 3, 4, 5, 6, 7, 9, 8, 11, 10, 13, 12, 8, 13, 15};
        for (int i = 0; i < 17; i++) DUE.is("key over letter " + i, x.letter(i, 1), over[i]);
        DUE.is("batch of letter 13", x.letter(13, 2), 0);
        DUE.is("3 came in batch 0", x.why(3, 2), 4);
        DUE.is("1 left in batch 1", x.why(1, 16), 3);
        DUE.is("1 came in batch 0", x.why(1, 15), 4);
        DUE.is("e never came", x.why(14, 0), 1);
    }

    private static void imageKeepsWhatMayBeUndone() {
        KeyTrees x = new KeyTrees();
        x.come(1);
        x.come(2);
        x.image();
        DUE.is("an image is no doing", x.count(8), 2);
        for (int m = 3; m < 12; m++) x.come(m);
        x.restore();
        DUE.is("known as then", x.count(8), 2);
        DUE.is("undone", x.undo(), 1);
        DUE.is("as ahead of it", x.count(1), 2);
        x.restore();
        DUE.is("known as then again", x.count(8), 2);
        x.undo();
        DUE.is("undone to nothing", x.undo(), 0);
        DUE.is("nothing", x.count(1), 0);
    }
}
