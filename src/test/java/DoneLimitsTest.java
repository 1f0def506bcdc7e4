/** Promises 18 to 24, each sentence that names a limit. */
public final class DoneLimitsTest {
    private static final Limits L = new Limits("DoneLimitsTest");
    private static final int BAD = KeyTrees.BAD;
    private static final int FULL = KeyTrees.FULL;
    private static final int NONE = KeyTrees.NONE;
    private static final int LEAST = Integer.MIN_VALUE;
    private static final int MOST = Integer.MAX_VALUE;
    private static final long DRAW_BITS = 0x7fffffffL;

    private DoneLimitsTest() {
    }

    public static void main(String[] args) {
        typeCounts();
        typeBad();
        typeFull();
        readEmpties();
        readWholeTape();
        faultPlaces();
        faultOfEachLetter();
        faultChangesNothing();
        blanks();
        readStops();
        readOfNoEvent();
        driftLimits();
        driftDraws();
        driftTurns();
        driftRefused();
        driftTurnsUndone();
        undoCounts();
        undoOfEachDoing();
        undoOfWhatIsWrittenOver();
        undoneLettersAreRead();
        undoKeeps();
        undoNone();
        whatIsNoDoing();
        seedLimits();
        imageKeeps();
        imageOfEachPast();
        imageLeaves();
        restoreNone();
        L.end();
    }

    // ---- promise 18

    private static void typeCounts() {
        L.sentence("Promise 18", "One letter more behind THE TAPE: how many it has. BAD: not 32 .. 126");
        KeyTrees x = new KeyTrees();
        for (int letter = 32; letter <= 121; letter++) L.is("type " + letter, x.type(letter), letter - 31);
        KeyTrees y = new KeyTrees();
        L.is("the last one", y.type(126), 1);
        L.is("the first one", y.type(32), 2);
        L.is("126 was taken", y.read(), -20);
        L.is("none then", y.type(125), 1);
    }

    private static void typeBad() {
        L.sentence("Promise 18", "BAD: not 32 .. 126");
        for (int letter : new int[] {31, 127, 0, -1, 128, 256 + '!', 65536 + '!', LEAST, MOST}) {
            L.keeps("type " + letter, Trees::rich, x -> x.type(letter), BAD);
            L.keeps("bad ahead of full, " + letter, x -> comings(x, 45), x -> x.type(letter), BAD);
        }
    }

    private static void typeFull() {
        L.sentence("Promise 18", "FULL: 90.");
        KeyTrees x = new KeyTrees();
        comings(x, 44);
        x.type(' ');
        L.is("the 90th", x.type('!'), 90);
        L.is("the 91st", x.type('!'), FULL);
        L.is("stays", x.type('!'), FULL);
        L.keeps("full", y -> comings(y, 45), y -> y.type('!'), FULL);
        L.keeps("full, of a blank", y -> comings(y, 45), y -> y.type(' '), FULL);
    }

    /** So many times + and a member: 15, 14, .. 0, and again. */
    private static void comings(KeyTrees x, int times) {
        for (int i = 0; i < times; i++) {
            x.type('+');
            x.type("fedcba9876543210".charAt(i % 16));
        }
    }

    // ---- promise 19

    private static void readEmpties() {
        L.sentence("Promise 19", "THE TAPE, which is empty then (by a FAULT, too), is a TEXT: how many EVENTS are"
            + " done.");
        for (String text : new String[] {"+1", "+1!", "!", "-1", "", " ", "+", "x", "+1+", "+1+1+2"}) {
            KeyTrees x = new KeyTrees();
            Trees.tell(x, text);
            L.is("empty behind '" + text + "'", x.type('!'), 1);
            L.is("one event was typed", x.read(), text.equals("+1") || text.equals("+1+1+2") ? 1 : 0);
        }
    }

    private static void readWholeTape() {
        L.sentence("Promise 19", "how many EVENTS are done");
        KeyTrees x = new KeyTrees();
        for (int m = 0; m < 16; m++) tapeOf(x, "+" + Integer.toHexString(m));
        tapeOf(x, "!");
        for (int m = 0; m < 16; m++) tapeOf(x, "-" + Integer.toHexString(m));
        tapeOf(x, "! +0 +1 +2 +3 +4 +5");
        L.is("85 letters", x.type(' '), 85);
        tapeOf(x, " +f !");
        L.is("90 letters", x.type('!'), FULL);
        L.is("all of them", x.read(), 16 + 1 + 16 + 1 + 6 + 2);
        L.is("sitting", x.count(0), 0x803f);
        L.is("batches", x.count(6), 3);
        KeyTrees y = new KeyTrees();
        comings(y, 45);
        L.is("16 come, the 17th is refused", y.read(), 16);
    }

    private static void tapeOf(KeyTrees x, String text) {
        for (int i = 0; i < text.length(); i++) x.type(text.charAt(i));
    }

    private static void faultPlaces() {
        L.sentence("Terms", "A FAULT is the first letter (behind blanks) that can't stand there (the end: how many"
            + " letters there are): then none is done. Blanks count for nothing.");
        String[] texts = {"", " ", "  ", "+", "-", "+ ", " + ", "+1-", "+1 - ", "!+", "+1!-",
            "x", " x", "+x", "+ x", "+1x", "+1 x", "!x", "! x", "1", " 1", "+11", "+1 1", "!1",
            "++1", "+ +1", "+-1", "+!", "-!", "-+1", "+1+!", "x+1", "xx", "+1xx", "+xx"};
        int[] places = {0, 1, 2, 1, 1, 2, 3, 3, 5, 2, 4,
            0, 1, 1, 2, 2, 3, 1, 2, 0, 1, 2, 3, 1,
            1, 2, 1, 1, 1, 1, 3, 0, 0, 2, 1};
        for (int t = 0; t < texts.length; t++) {
            KeyTrees x = new KeyTrees();
            L.is("'" + texts[t] + "'", Trees.tell(x, texts[t]), -20 - places[t]);
            L.is("none is coming by '" + texts[t] + "'", x.count(1), 0);
            L.is("nothing to undo by '" + texts[t] + "'", x.count(8), 0);
        }
        L.sentence("Promise 19", "A FAULT: -20 less its place (all else stays).");
        KeyTrees x = new KeyTrees();
        for (int i = 0; i < 90; i++) x.type(' ');
        L.is("90 blanks: the end", x.read(), -110);
        comings(x, 44);
        tapeOf(x, " +");
        L.is("the end of 90", x.read(), -110);
        comings(x, 44);
        tapeOf(x, "+g");
        L.is("the 90th", x.read(), -109);
        tapeOf(x, "g");
        comings(x, 44);
        L.is("the first", x.read(), -20);
        L.is("none of these is done", x.count(1), 0);
    }

    /** Each letter that can be typed, where an event begins and where a member is told. */
    private static void faultOfEachLetter() {
        L.sentence("Terms", "A TEXT: EVENTS, one behind the other, one at least: + or - and a MEMBER (a figure 0 .. 9"
            + " or a letter a .. f): it is told to come, to leave; ! : a BATCH.");
        for (int letter = 32; letter <= 126; letter++) {
            String sign = "" + (char) letter;
            KeyTrees x = new KeyTrees();
            int due = sign.equals("!") ? 0 : sign.equals(" ") || sign.equals("+") || sign.equals("-") ? -21 : -20;
            L.is("'" + sign + "' where an event begins", Trees.tell(x, sign), due);
            int m = "0123456789abcdef".indexOf(sign);
            int member = m >= 0 ? 1 : sign.equals(" ") ? -22 : -21;
            L.is("'" + sign + "' where a member is told", Trees.tell(x, "+" + sign), member);
            L.is("coming by +" + sign, x.count(1), m >= 0 ? 1 << m : 0);
            if (m < 0) continue;
            x.batch();
            L.is("'" + sign + "' leaves", Trees.tell(x, "-" + sign), 1);
            L.is("leaving by -" + sign, x.count(2), 1 << m);
        }
    }

    private static void faultChangesNothing() {
        L.sentence("Promise 19", "A FAULT: -20 less its place (all else stays).");
        String[] texts = {"", " ", "+", "+0!-1x", "-0+1!!x", "+1!+", "!-"};
        for (String text : texts) {
            L.alike("'" + text + "', a fault, leaves nothing", x -> {
                richWithoutTape(x);
                Trees.tell(x, text);
            }, DoneLimitsTest::richWithoutTape);
        }
    }

    /** The tape of the rich one is a text: it is done, and undone again. */
    private static void richWithoutTape(KeyTrees x) {
        Trees.rich(x);
        x.read();
        x.undo();
    }

    private static void blanks() {
        L.sentence("Terms", "Blanks count for nothing.");
        KeyTrees x = new KeyTrees();
        L.is("blanks everywhere", Trees.tell(x, "   +   0  +f   !  !   "), 3);
        L.is("both sit", x.count(0), 0x8001);
        L.is("without them", Trees.tell(new KeyTrees(), "+0+f!!"), 3);
    }

    private static void readStops() {
        L.sentence("Terms", "They are done one behind the other, as far as none is refused.");
        String[] texts = {"+0", "+0+0+1", "-0+1", "!+1", "+0!!+1", "+0!-0-0+1", "+0!+0+1", "+0-0+1", "+0!-0!+0!+0"};
        int[] done = {1, 1, 0, 0, 2, 3, 2, 1, 6};
        int[] coming = {1, 1, 0, 0, 0, 0, 0, 1, 0};
        for (int t = 0; t < texts.length; t++) {
            KeyTrees x = new KeyTrees();
            L.is("'" + texts[t] + "'", Trees.tell(x, texts[t]), done[t]);
            L.is("coming by '" + texts[t] + "'", x.count(1), coming[t]);
        }
        KeyTrees x = new KeyTrees();
        Trees.with159Letters(x);
        L.is("the book becomes full", Trees.tell(x, "-4!-0!+a"), 3);
        L.is("4 left", x.count(0), 5);
        L.is("0 is leaving", x.count(2), 1);
        L.is("a isn't coming", x.count(1), 0);
    }

    private static void readOfNoEvent() {
        L.sentence("Terms", "of a TEXT (of which no EVENT is done, too)");
        KeyTrees x = new KeyTrees();
        L.is("the first is refused", Trees.tell(x, "-0"), 0);
        L.is("it may be undone", x.count(8), 1);
        L.is("undone", x.undo(), 0);
        L.alike("of no event, undone", y -> {
            Trees.tell(y, "+0!");
            Trees.tell(y, "+0");
            y.undo();
        }, y -> Trees.tell(y, "+0!"));
    }

    // ---- promise 20

    private static void driftLimits() {
        L.sentence("Promise 20", "BAD.");
        for (int n : new int[] {0, 41, -1, LEAST, MOST}) {
            L.keeps("drift " + n, Trees::rich, x -> x.drift(n), BAD);
        }
        L.sentence("Promise 20", "A DRIFT of n turns (1 .. 40; each may be UNDONE, one that changes nothing, too):"
            + " MEMBERS that SIT then (a set).");
        for (int n = 1; n <= 40; n++) {
            KeyTrees x = new KeyTrees();
            int sitting = x.drift(n);
            L.is("sitting behind " + n, sitting, x.count(0));
            L.is("known behind " + n, x.count(8), Math.min(n, 6));
            long draw = 1;
            for (int turn = 0; turn < n; turn++) draw = (draw * 1103515245L + 12345) & DRAW_BITS;
            L.is("the draw behind " + n, x.seed(0), draw);
        }
        KeyTrees x = new KeyTrees();
        KeyTrees y = new KeyTrees();
        int once = x.drift(40);
        for (int turn = 0; turn < 39; turn++) y.drift(1);
        L.is("40 at once, or one by one", once, y.drift(1));
        L.is("keys at once, or one by one", x.count(4), y.count(4));
    }

    private static void driftDraws() {
        L.sentence("Terms", "THE DRAW is a number of 31 bits (1 at first); for each turn it becomes the lowest 31"
            + " bits of itself times 1103515245 and 12345 more");
        int[] seeds = {0, 1, 2, 0x3fffffff, 0x40000000, MOST - 1, MOST, 1234567890};
        for (int seed : seeds) {
            KeyTrees x = new KeyTrees();
            x.seed(seed);
            x.drift(1);
            L.is("the draw behind " + seed, x.seed(0), (seed * 1103515245L + 12345) & DRAW_BITS);
        }
    }

    /** x of each kind; 16 times the member is added to it, and what is above counts for nothing. */
    private static void driftTurns() {
        L.sentence("Terms", "x is it by 65536 (cut), m x by 16 (cut) left over by 16. x left over by 8 is 0 .. 3: m"
            + " is told to come; if it SITS, to leave. 4, 5: a BATCH. 6: m falls asleep, if it SITS and is not LATE;"
            + " else it wakes. 7: KEYS of m are mended.");
        for (int m : new int[] {0, 1, 14, 15}) {
            for (int high : new int[] {0, 8, 1 << 8, 127 << 8}) {
                for (int kind = 0; kind < 4; kind++) {
                    KeyTrees x = new KeyTrees();
                    turn(x, high | m << 4 | kind);
                    L.is("told to come " + m, x.count(1), 1 << m);
                    x.batch();
                    turn(x, high | m << 4 | kind);
                    L.is("told to leave " + m, x.count(2), 1 << m);
                    L.is("not to come " + m, x.count(1), 0);
                }
                for (int kind = 4; kind < 6; kind++) {
                    KeyTrees x = new KeyTrees();
                    x.come(5);
                    turn(x, high | m << 4 | kind);
                    L.is("a batch", x.count(0), 32);
                }
                sleepAndMend(m, high);
            }
        }
    }

    private static void sleepAndMend(int m, int high) {
        KeyTrees x = Trees.whole();
        int asleep = high | m << 4 | 6;
        turn(x, asleep);
        L.is("asleep " + m, x.count(3), 1 << m);
        x.leave(m ^ 1);
        x.batch();
        L.is("one to read, at the least", x.member(m, 4) > 0 ? 1 : 0, 1);
        turn(x, asleep);
        L.is("awake " + m, x.count(3), 0);
        L.is("read " + m, x.member(m, 4), 0);
        L.is("holds it " + m, x.member(m, 2), 1);
        Trees.lacking(x, m, m ^ 2);
        L.is("lacks it " + m, x.count(7), 1 << m);
        turn(x, high | m << 4 | 7);
        L.is("mended " + m, x.count(7), 0);
        x.leave(m);
        turn(x, asleep);
        L.is("leaving, asleep " + m, x.count(3), 1 << m);
        turn(x, asleep);
        L.is("leaving, awake " + m, x.count(3), 0);
    }

    /** One turn whose x is as told. */
    private static void turn(KeyTrees x, int wanted) {
        x.seed(Trees.seedAheadOf(drawOf(wanted)));
        x.drift(1);
        L.is("the draw of x " + wanted, x.seed(1), drawOf(wanted));
    }

    /** The least 16 bits are all ones, so that it counts that x is cut. */
    private static long drawOf(int wanted) {
        return (long) wanted << 16 | 0xffff;
    }

    private static void driftRefused() {
        L.sentence("Terms", "(Nothing else, if that is refused.)");
        int[] ofRich = {9 << 4, 9 << 4 | 3, 2 << 4, 2 << 4 | 3, 15 << 4 | 6, 1 << 4 | 6, 9 << 4 | 6, 7, 2 << 4 | 7,
            3 << 4 | 7, 1 << 4 | 7, 9 << 4 | 7, 15 << 4 | 7};
        for (int wanted : ofRich) refusedTurn(DoneLimitsTest::richWithoutTape, wanted);
        for (int wanted : new int[] {4, 5, 15 << 4 | 4, 6, 7}) refusedTurn(x -> { }, wanted);
        for (int wanted : new int[] {4, 5, 6 << 4 | 7}) {
            refusedTurn(x -> {
                Trees.with160Letters(x);
                x.come(0);
            }, wanted);
        }
    }

    /** It is as a text of which no event is done, but for the draw. */
    private static void refusedTurn(Limits.Steps state, int wanted) {
        L.alike("refused: x " + wanted, x -> {
            state.tell(x);
            turn(x, wanted);
        }, x -> {
            state.tell(x);
            x.seed(Trees.seedAheadOf(drawOf(wanted)));
            Trees.tell(x, "-f");
            x.seed(1);
        });
    }

    private static void driftTurnsUndone() {
        L.sentence("Promise 20", "each may be UNDONE, one that changes nothing, too");
        for (int n = 1; n <= 5; n++) {
            int turns = n;
            L.alike(n + " turns undone", x -> {
                Trees.tell(x, "+0+1!");
                x.seed(5);
                x.drift(turns);
                for (int turn = 0; turn < turns; turn++) x.undo();
            }, x -> {
                Trees.tell(x, "+0+1!");
                x.seed(5);
            });
        }
        KeyTrees x = new KeyTrees();
        turn(x, 4);
        L.is("one that changes nothing", x.count(8), 1);
        L.is("undone", x.undo(), 0);
        KeyTrees y = new KeyTrees();
        y.seed(31);
        y.drift(40);
        for (int left = 5; left >= 0; left--) L.is("the last six", y.undo(), left);
        long draw = 31;
        for (int turn = 0; turn < 34; turn++) draw = (draw * 1103515245L + 12345) & DRAW_BITS;
        L.is("the draw of ahead of these", y.seed(0), draw);
        L.is("older ones are lost", y.undo(), NONE);
    }

    // ---- promise 21

    private static void undoCounts() {
        L.sentence("Terms", "(6 are known, older ones lost)");
        for (int done = 0; done <= 14; done++) {
            KeyTrees x = new KeyTrees();
            for (int m = 0; m < done; m++) x.come(m);
            int known = Math.min(done, 6);
            L.is("known of " + done, x.count(8), known);
            L.sentence("Promise 21", "how many more may be");
            for (int left = known - 1; left >= 0; left--) {
                L.is("undo of " + done, x.undo(), left);
                L.is("known then", x.count(8), left);
                L.is("coming then", x.count(1), (1 << done - known + left) - 1);
            }
            L.is("no more of " + done, x.undo(), NONE);
            L.is("coming as ahead", x.count(1), (1 << done - known) - 1);
            x.come(15);
            L.is("known anew", x.count(8), 1);
        }
        KeyTrees x = new KeyTrees();
        for (int m = 0; m < 6; m++) x.come(m);
        for (int n = 0; n < 3; n++) x.undo();
        for (int m = 6; m < 10; m++) x.come(m);
        L.is("six again", x.count(8), 6);
        int[] coming = {0x1c7, 0xc7, 0x47, 7, 3, 1};
        for (int n = 0; n < 6; n++) {
            x.undo();
            L.is("as ahead of the latest " + n, x.count(1), coming[n]);
        }
    }

    private static void undoOfEachDoing() {
        L.sentence("Terms", "UNDONE: the latest of a MEMBER told to come, to leave, a BATCH, one that falls asleep or"
            + " wakes, LETTERS lost (be there none, too), KEYS mended, THE BOOK begun, of a TEXT (of which no EVENT"
            + " is done, too), a turn of a DRIFT, is as it had not been");
        doing("come", x -> x.come(8), 1);
        doing("leave", x -> x.leave(3), 2);
        doing("batch", KeyTrees::batch, 3);
        doing("asleep", x -> x.late(0, 1), 0);
        doing("awake", x -> x.late(3, 0), 2);
        doing("lost", x -> x.lose(3, 2), 2);
        doing("begun", KeyTrees::begin, 17);
        doing("text", x -> Trees.tell(x, "-0-3!+8!"), 5);
        doing("text of none", x -> Trees.tell(x, "+0"), 0);
        doing("drift", x -> x.drift(1), 13);
        L.alike("mended, undone", x -> {
            lackingTwo(x);
            L.is("mended", x.mend(3), 2);
            L.is("mended: one more is known", x.count(8), 6);
            x.undo();
        }, DoneLimitsTest::lackingTwo);
        L.alike("none lost, undone", x -> {
            oneLate(x);
            L.is("none lost", x.lose(3, 1), 0);
            L.is("none lost: one more is known", x.count(8), 3);
            x.undo();
        }, DoneLimitsTest::oneLate);
    }

    /** 3 lacks the keys of 3 and 1; five doings are known. */
    private static void lackingTwo(KeyTrees x) {
        Trees.tell(x, "+0+1+2+3!");
        x.late(3, 1);
        Trees.tell(x, "-1!");
        x.lose(3, 40);
        x.late(3, 0);
    }

    private static void oneLate(KeyTrees x) {
        Trees.tell(x, "+0+1+2+3!");
        x.late(3, 1);
    }

    private static void doing(String name, Limits.Call doing, long answer) {
        KeyTrees x = new KeyTrees();
        fourDone(x);
        L.is(name, doing.on(x), answer);
        L.is(name + ": one more is known", x.count(8), 5);
        L.alike(name + ", undone", y -> {
            fourDone(y);
            doing.on(y);
            y.undo();
        }, DoneLimitsTest::fourDone);
        L.alike(name + ", and what was told since, undone", y -> {
            fourDone(y);
            doing.on(y);
            y.seed(4711);
            y.undo();
        }, DoneLimitsTest::fourDone);
    }

    /** As the sleeper's book, and 2 is leaving; four doings are known. */
    private static void fourDone(KeyTrees x) {
        Trees.tell(x, "+0+1+2+3!");
        x.late(3, 1);
        Trees.tell(x, "-1!");
        x.leave(2);
    }

    /** A book that is begun anew and written over, its members having come and left, is back with all it had. */
    private static void undoOfWhatIsWrittenOver() {
        L.sentence("Terms", "is as it had not been");
        String over = "+1+3+d+e!-d+c!+0+2!-1!-0-2-3-e!+1+f!-1!";
        L.alike("written over, undone", x -> {
            fourDone(x);
            x.begin();
            Trees.tell(x, over);
            x.undo();
            x.undo();
        }, DoneLimitsTest::fourDone);
        L.alike("written over, restored", x -> {
            fourDone(x);
            x.image();
            x.begin();
            Trees.tell(x, over);
            x.restore();
        }, x -> {
            fourDone(x);
            x.image();
        });
    }

    /** What an undone batch wrote is no letter any more, neither to those who wake nor to those who come. */
    private static void undoneLettersAreRead() {
        L.sentence("Terms", "is as it had not been");
        KeyTrees x = Trees.after("+0+1+2+3!");
        x.late(3, 1);
        Trees.tell(x, "-1!");
        x.undo();
        L.is("none unread", x.member(3, 4), 0);
        L.is("none to lose", x.lose(3, 40), 0);
        L.is("none opened", x.late(3, 0), 0);
        x.begin();
        x.come(3);
        x.batch();
        L.is("none opened of a book begun anew", x.late(3, 1) + x.late(3, 0), 0);
        // the undone one's last letter would tell a key of this number under node 3's old one, which 1 holds
        KeyTrees y = Trees.after("+0+1!");
        Trees.tell(y, "+3!");
        L.is("letters", y.count(5), 14);
        y.undo();
        Trees.tell(y, "-1+3!");
        L.is("one letter fewer", y.count(5), 13);
        L.is("the group key", y.node(1, 0), 13);
        L.is("1 holds node 3's old key", y.key(6, 3), 2);
        L.is("and opens nothing of now", y.opens(2, 13), 0);
    }

    private static void undoKeeps() {
        L.sentence("Terms", "all but SHEETS, THE TAPE, IMAGES is as ahead of it, whatever was told since.");
        KeyTrees x = new KeyTrees();
        x.seed(5);
        x.come(1);
        x.seed(6);
        x.type('+');
        x.sheet(2, 1, 5);
        x.image();
        x.drop(1);
        x.sheet(3, 0, 24);
        x.undo();
        L.is("the draw is as ahead", x.seed(0), 5);
        L.is("the tape stays", x.type('7'), 2);
        L.is("a sheet stays", x.drop(2), 5);
        L.is("another sheet stays", x.drop(3), 24);
        L.is("the image stays", x.restore(), 1);
        L.is("of then", x.count(1), 2);
        L.is("its draw", x.seed(0), 6);
        L.is("its doing", x.count(8), 1);
    }

    private static void undoNone() {
        L.sentence("Promise 21", "NONE: none is known.");
        L.keeps("new", x -> { }, KeyTrees::undo, NONE);
        L.keeps("all undone", x -> {
            Trees.rich(x);
            for (int n = 0; n < 6; n++) x.undo();
        }, KeyTrees::undo, NONE);
        L.keeps("as of an image of nothing", x -> {
            x.image();
            x.come(1);
            x.restore();
        }, KeyTrees::undo, NONE);
    }

    private static void whatIsNoDoing() {
        L.sentence("Terms", "UNDONE: the latest of");
        KeyTrees x = Trees.after("+0!");
        x.seed(9);
        x.image();
        x.type('+');
        x.sheet(0, 0, 5);
        x.item(0, 0, 0, 1);
        x.film(16, 0, 0, 0);
        x.copy(0, 0, 0, 1, 2);
        x.got(0, 0, 0, 0, 1);
        x.drop(0);
        x.read();
        L.is("none of these, nor a fault", x.count(8), 1);
        x.restore();
        L.is("nor what was restored", x.count(8), 1);
    }

    // ---- promise 22

    private static void seedLimits() {
        L.sentence("Promise 22", "THE DRAW becomes v: what it was.");
        KeyTrees x = new KeyTrees();
        int before = 1;
        for (int v : new int[] {0, 1, 2, MOST - 1, MOST, 0x40000000, 0}) {
            L.is("seed " + v, x.seed(v), before);
            before = v;
        }
        L.sentence("Promise 22", "BAD: below 0.");
        for (int v : new int[] {-1, -2, LEAST, LEAST + 1}) {
            L.keeps("seed " + v, Trees::rich, y -> y.seed(v), BAD);
        }
    }

    // ---- promises 23 and 24

    private static void imageKeeps() {
        L.sentence("Promise 23", "All but SHEETS, THE TAPE is kept as an IMAGE (what may be UNDONE, too): 1.");
        KeyTrees x = new KeyTrees();
        L.is("of a new one", x.image(), 1);
        Trees.rich(x);
        L.is("of a rich one", x.image(), 1);
        L.sentence("Promise 24", "All is as it was then: 1.");
        Limits.Steps[] since = {y -> { }, y -> y.begin(), y -> y.drift(40), y -> Trees.tell(y, "+1-0!-2!+0+d!"),
            y -> y.seed(1), y -> undoSix(y), y -> {
                y.begin();
                Trees.tell(y, "+0+1+2+3+4+5+6+7+8+9!");
                y.undo();
                y.restore();
                y.come(8);
            }};
        for (int n = 0; n < since.length; n++) {
            Limits.Steps steps = since[n];
            L.alike("restored behind " + n, y -> {
                richWithoutTape(y);
                y.image();
                steps.tell(y);
                L.is("restore", y.restore(), 1);
            }, y -> {
                richWithoutTape(y);
                y.image();
            });
        }
        KeyTrees y = new KeyTrees();
        y.image();
        for (int n = 0; n < 3; n++) {
            y.come(n);
            L.is("again and again", y.restore(), 1);
            L.is("as it was", y.count(1), 0);
        }
        y.come(7);
        y.image();
        y.come(8);
        y.restore();
        L.is("the latest image", y.count(1), 1 << 7);
    }

    /** So many come ahead of the image: what may be undone then is so, whatever has been written over it since. */
    private static void imageOfEachPast() {
        L.sentence("Promise 23", "(what may be UNDONE, too)");
        for (int n = 0; n <= 14; n++) {
            KeyTrees x = new KeyTrees();
            for (int m = 0; m < n; m++) x.come(m);
            x.image();
            x.drift(40);
            x.restore();
            int known = Math.min(n, 6);
            L.is("known of " + n, x.count(8), known);
            for (int left = known - 1; left >= 0; left--) {
                L.is("undo of " + n, x.undo(), left);
                L.is("coming then", x.count(1), (1 << n - known + left) - 1);
                L.is("sitting then", x.count(0), 0);
            }
            L.is("no more of " + n, x.undo(), NONE);
        }
    }

    private static void undoSix(KeyTrees x) {
        for (int n = 0; n < 6; n++) x.undo();
    }

    private static void imageLeaves() {
        L.sentence("Promise 23", "All but SHEETS, THE TAPE");
        KeyTrees x = new KeyTrees();
        x.type('+');
        x.sheet(0, 0, 3);
        x.image();
        x.type('4');
        x.drop(0);
        x.sheet(1, 1, 7);
        x.restore();
        L.is("the tape is as of now", x.read(), 1);
        L.is("4 is coming", x.count(1), 16);
        L.is("a sheet is as of now", x.drop(0), KeyTrees.NULL);
        L.is("another is, too", x.drop(1), 7);
        L.keeps("an image changes nothing", y -> {
            Trees.rich(y);
            y.image();
        }, KeyTrees::image, 1);
    }

    private static void restoreNone() {
        L.sentence("Promise 24", "NONE: there is none.");
        L.keeps("new", x -> { }, KeyTrees::restore, NONE);
        L.keeps("of many calls", x -> {
            Trees.tell(x, "+0+1!");
            x.seed(7);
            x.drift(9);
        }, KeyTrees::restore, NONE);
        L.keeps("begun and undone", x -> {
            x.come(1);
            x.begin();
            x.undo();
        }, KeyTrees::restore, NONE);
    }
}
