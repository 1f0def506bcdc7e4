/** Promises 25 to 30, each sentence that names a limit. */
public final class SheetsLimitsTest {
    private static final Limits L = new Limits("SheetsLimitsTest");
    private static final int BAD = KeyTrees.BAD;
    private static final int NOT = KeyTrees.NOT;
    private static final int NONE = KeyTrees.NONE;
    private static final int NULL = KeyTrees.NULL;
    private static final int CAST = KeyTrees.CAST;
    private static final int INDEX = KeyTrees.INDEX;
    private static final int SIZE = KeyTrees.SIZE;
    private static final int LEAST = Integer.MIN_VALUE;
    private static final int MOST = Integer.MAX_VALUE;
    private static final int[] NO_SHEETS = {-1, 4, LEAST, MOST};
    private static final int[] NO_LANES = {-1, 4, LEAST, MOST};

    private SheetsLimitsTest() {
    }

    public static void main(String[] args) {
        nothingAtFirst();
        gotAnswers();
        gotBad();
        gotNull();
        gotCast();
        gotIndex();
        gotNot();
        gotNone();
        filmAnswers();
        filmBad();
        filmNull();
        filmCast();
        filmIndex();
        filmCuts();
        sheetAnswers();
        sheetBad();
        sheetSize();
        dropAnswers();
        dropRefused();
        itemAnswers();
        itemBad();
        itemNull();
        itemCast();
        itemIndex();
        itemCuts();
        copyAnswers();
        copyAsIfTakenAhead();
        copyBad();
        copyNull();
        copyCast();
        copyIndex();
        copyOfNone();
        L.end();
    }

    private static void nothingAtFirst() {
        L.sentence("Terms", "sheets 0 .. 3: nothing (at first), or a row of a LANE: 0 bytes, 1 shorts, 2 ints, 3"
            + " longs (all with a sign), of 0 to 24 items.");
        for (int sheet = 0; sheet < 4; sheet++) {
            int s = sheet;
            L.keeps("drop " + s, x -> { }, x -> x.drop(s), NULL);
            for (int lane = 0; lane < 4; lane++) {
                int l = lane;
                L.keeps("item " + s + " " + l, x -> { }, x -> x.item(s, l, 0, 1), NULL);
                L.keeps("got " + s + " " + l, x -> { }, x -> x.got(0, s, l, 0, 1), NULL);
                L.keeps("film " + s + " " + l, x -> { }, x -> x.film(16, s, l, 0), NULL);
                KeyTrees x = Trees.sleeper();
                for (int n = 0; n <= 24; n++) L.is("a row of " + n, x.sheet(s, l, n), n);
                for (int i = 0; i < 24; i++) L.is("item " + i, x.item(s, l, i, -1), 1);
                for (int i = 0; i < 24; i++) L.is("has a sign " + i, x.got(0, s, l, i, 1), NOT);
                L.is("no more", x.item(s, l, 24, 0), INDEX);
            }
        }
    }

    // ---- promise 25

    private static void gotAnswers() {
        L.sentence("Promise 25", "Were a MEMBER to READ n LETTERS (1 .. 24), told by their numbers in a SHEET taken"
            + " as a row of a LANE, from item i on, one behind the other: whether it would HOLD the GROUP KEY (1, 0");
        L.keeps("both letters", Trees::rich, x -> x.got(3, 0, 1, 1, 2), 1);
        L.keeps("one of them", Trees::rich, x -> x.got(3, 0, 1, 1, 1), 0);
        L.keeps("the other", Trees::rich, x -> x.got(3, 0, 1, 2, 1), 0);
        L.keeps("one that holds it", Trees::rich, x -> x.got(0, 0, 1, 2, 1), 1);
        L.keeps("the last member", Trees::rich, x -> x.got(15, 0, 1, 1, 2), 0);
        KeyTrees x = Trees.sleeper();
        for (int n = 2; n <= 24; n++) {
            long[] items = new long[n];
            items[n - 2] = 14;
            items[n - 1] = 16;
            Trees.row(x, 2, 0, items);
            L.is("the last two of " + n, x.got(3, 2, 0, 0, n), 1);
            L.is("all but the last of " + n, x.got(3, 2, 0, 0, n - 1), 0);
        }
        Trees.row(x, 1, 3, 16, 14, 16);
        L.is("one behind the other", x.got(3, 1, 3, 0, 2), 0);
        L.is("from item 1 on", x.got(3, 1, 3, 1, 2), 1);
    }

    private static void gotBad() {
        L.sentence("Promise 25", "BAD");
        for (int m : Limits.NO_MEMBERS) {
            L.keeps("m " + m, Trees::rich, x -> x.got(m, 0, 1, 1, 2), BAD);
            L.keeps("ahead of null, m " + m, Trees::rich, x -> x.got(m, 3, 1, 1, 2), BAD);
            L.keeps("ahead of cast, m " + m, Trees::rich, x -> x.got(m, 0, 0, 1, 2), BAD);
            L.keeps("ahead of index, m " + m, Trees::rich, x -> x.got(m, 0, 1, 9, 2), BAD);
            L.keeps("ahead of not, m " + m, Trees::rich, x -> x.got(m, 0, 1, 0, 2), BAD);
        }
        for (int sheet : NO_SHEETS) L.keeps("sheet " + sheet, Trees::rich, x -> x.got(3, sheet, 1, 1, 2), BAD);
        for (int lane : NO_LANES) {
            L.keeps("lane " + lane, Trees::rich, x -> x.got(3, 0, lane, 1, 2), BAD);
            L.keeps("ahead of null, lane " + lane, Trees::rich, x -> x.got(3, 3, lane, 1, 2), BAD);
        }
        for (int n : new int[] {0, 25, -1, LEAST, MOST}) {
            L.keeps("n " + n, Trees::rich, x -> x.got(3, 0, 1, 1, n), BAD);
            L.keeps("ahead of null, n " + n, Trees::rich, x -> x.got(3, 3, 1, 1, n), BAD);
            L.keeps("ahead of cast, n " + n, Trees::rich, x -> x.got(3, 0, 2, 1, n), BAD);
            L.keeps("ahead of index, n " + n, Trees::rich, x -> x.got(3, 0, 1, -1, n), BAD);
        }
        L.is("ahead of none", new KeyTrees().got(16, 0, 0, 0, 1), BAD);
    }

    private static void gotNull() {
        L.sentence("Promise 25", "NULL");
        for (int lane = 0; lane < 4; lane++) {
            int l = lane;
            L.keeps("missing, lane " + l, Trees::rich, x -> x.got(3, 3, l, 0, 1), NULL);
            L.keeps("ahead of index, lane " + l, Trees::rich, x -> x.got(3, 3, l, -1, 24), NULL);
            L.keeps("dropped, lane " + l, x -> {
                Trees.rich(x);
                x.drop(0);
            }, x -> x.got(3, 0, l, 0, 1), NULL);
        }
    }

    private static void gotCast() {
        L.sentence("Terms", "CAST -12 (of SHEETS another LANE)");
        for (int lane = 0; lane < 4; lane++) {
            for (int taken = 0; taken < 4; taken++) {
                KeyTrees x = Trees.sleeper();
                Trees.row(x, 3, lane, 14, 16);
                int due = lane == taken ? 1 : CAST;
                L.is(lane + " taken as " + taken, x.got(3, 3, taken, 0, 2), due);
                if (due == CAST) L.is("ahead of index", x.got(3, 3, taken, 1, 2), CAST);
            }
        }
        L.keeps("ahead of not", Trees::rich, x -> x.got(3, 0, 2, 0, 1), CAST);
    }

    private static void gotIndex() {
        L.sentence("Promise 25", "INDEX");
        for (int i : new int[] {-1, 2, 3, 4, LEAST, MOST, MOST - 1}) {
            L.keeps("i " + i, Trees::rich, x -> x.got(3, 0, 1, i, 2), INDEX);
        }
        L.keeps("one too many", Trees::rich, x -> x.got(3, 0, 1, 0, 4), INDEX);
        L.keeps("24 of 3", Trees::rich, x -> x.got(3, 0, 1, 0, 24), INDEX);
        L.keeps("one of none", Trees::rich, x -> x.got(3, 2, 3, 0, 1), INDEX);
        L.keeps("the last", Trees::rich, x -> x.got(3, 0, 1, 2, 1), 0);
        L.keeps("ahead of not", Trees::rich, x -> x.got(3, 1, 2, 5, 2), INDEX);
        L.keeps("all of them", Trees::rich, x -> x.got(3, 1, 2, 0, 6), NOT);
    }

    private static void gotNot() {
        L.sentence("Promise 25", "NOT: an item is no LETTER");
        for (long item : new long[] {-1, 17, 18, -17, 1L << 32, 1L << 63, Long.MAX_VALUE, (1L << 32) + 14}) {
            for (int place = 0; place < 3; place++) {
                KeyTrees x = Trees.sleeper();
                long[] items = {14, 15, 16};
                items[place] = item;
                Trees.row(x, 0, 3, items);
                L.is("item " + item, x.got(3, 0, 3, 0, 3), NOT);
                L.is("of one that holds all, item " + item, x.got(0, 0, 3, 0, 3), NOT);
                L.is("alone, item " + item, x.got(3, 0, 3, place, 1), NOT);
            }
        }
        KeyTrees x = Trees.sleeper();
        for (int item = 0; item < 17; item++) {
            Trees.row(x, 0, 1, item);
            L.is("letter " + item, x.got(0, 0, 1, 0, 1), 1);
        }
    }

    private static void gotNone() {
        L.sentence("Promise 25", "NONE: there is none");
        Limits.Steps left = x -> {
            Trees.row(x, 0, 1, 0, 3, 4, -1);
            Trees.tell(x, "+0!-0!");
        };
        L.keeps("none sits", left, x -> x.got(0, 0, 1, 0, 2), NONE);
        L.keeps("none sits, of one that never came", left, x -> x.got(15, 0, 1, 0, 2), NONE);
        L.sentence("Promise 25", "(all these ahead of NONE)");
        L.keeps("not", left, x -> x.got(0, 0, 1, 2, 1), NOT);
        L.keeps("not, below", left, x -> x.got(0, 0, 1, 3, 1), NOT);
        L.keeps("index", left, x -> x.got(0, 0, 1, 4, 1), INDEX);
        L.keeps("cast", left, x -> x.got(0, 0, 0, 0, 1), CAST);
        L.keeps("null", left, x -> x.got(0, 1, 1, 0, 1), NULL);
        L.keeps("bad", left, x -> x.got(16, 0, 1, 0, 1), BAD);
    }

    // ---- promise 26

    /** With all sitting node v has key 31 - v, so the leaf 16's key 15 is a letter as soon as there are 16. */
    private static void filmAnswers() {
        L.sentence("Promise 26", "KEYS of NODES from a LEAF up to 1 (NONE: -4), 5 items, come to a SHEET likewise,"
            + " their lowest bits: 5.");
        for (int lane = 0; lane < 4; lane++) {
            for (int leaf = 16; leaf < 32; leaf++) {
                KeyTrees x = Trees.whole();
                Trees.row(x, 3, lane, -1, -1, -1, -1, -1, -1, -1);
                L.is("film " + leaf, x.film(leaf, 3, lane, 1), 5);
                L.is("ahead of them", x.got(0, 3, lane, 0, 1), NOT);
                L.is("behind them", x.got(0, 3, lane, 6, 1), NOT);
                for (int j = 0; j < 5; j++) {
                    int key = 31 - (leaf >> j);
                    L.is("key of " + (leaf >> j), x.got(0, 3, lane, 1 + j, 1), key < 30 ? 1 : NOT);
                }
            }
        }
        filmInOrder();
        filmOfNone();
    }

    /** Each key is a letter as soon as the book, begun anew, has one letter more than the key's number. */
    private static void filmInOrder() {
        int[] keys = {8, 20, 26, 29, 30};
        for (int lane = 0; lane < 4; lane++) {
            for (int letters : new int[] {8, 9, 20, 21, 26, 27, 29, 30, 31}) {
                KeyTrees x = Trees.whole();
                x.sheet(0, lane, 5);
                x.film(23, 0, lane, 0);
                x.begin();
                write(x, letters);
                for (int j = 0; j < 5; j++) {
                    int due = keys[j] < letters ? NONE : NOT;
                    L.is("item " + j + " among " + letters, x.got(0, 0, lane, j, 1), due);
                }
            }
        }
    }

    /** So many letters, and none sits: by fours, as one comes alone, behind 9, 14 or 15 for what is left over by 4. */
    private static void write(KeyTrees x, int letters) {
        String[] ahead = {"+0!-0!", "+0+1!-1!-0!", "+0+1!-1!+1!-0-1!", "+0+1!-1!+1!-1!-0!"};
        int[] made = {4, 9, 14, 15};
        int over = letters % 4;
        Trees.tell(x, ahead[over]);
        for (int more = (letters - made[over]) / 4; more > 0; more--) Trees.tell(x, "+0!-0!");
        L.is("letters", x.count(5), letters);
    }

    private static void filmOfNone() {
        KeyTrees x = Trees.after("+0!");
        Trees.row(x, 1, 2, 0, 0, 0, 0, 0);
        L.is("31 isn't live", x.film(31, 1, 2, 0), 5);
        for (int j = 0; j < 4; j++) L.is("no key is no letter " + j, x.got(0, 1, 2, j, 1), NOT);
        L.is("node 1's key 4 of 4 letters", x.got(0, 1, 2, 4, 1), NOT);
        L.is("16", x.film(16, 1, 2, 0), 5);
        for (int j = 0; j < 4; j++) L.is("key " + j, x.got(0, 1, 2, j, 1), 1);
        KeyTrees y = new KeyTrees();
        Trees.row(y, 0, 0, 0, 0, 0, 0, 0);
        L.is("of a new one", y.film(16, 0, 0, 0), 5);
        y.come(0);
        y.batch();
        for (int j = 0; j < 5; j++) L.is("none at all " + j, y.got(0, 0, 0, j, 1), NOT);
    }

    private static void filmBad() {
        L.sentence("Promise 26", "BAD: also, it's no LEAF");
        for (int leaf : new int[] {15, 32, 0, 1, -1, -16, LEAST, MOST}) {
            L.keeps("leaf " + leaf, Trees::rich, x -> x.film(leaf, 1, 2, 0), BAD);
            L.keeps("ahead of null, leaf " + leaf, Trees::rich, x -> x.film(leaf, 3, 2, 0), BAD);
            L.keeps("ahead of cast, leaf " + leaf, Trees::rich, x -> x.film(leaf, 1, 1, 0), BAD);
            L.keeps("ahead of index, leaf " + leaf, Trees::rich, x -> x.film(leaf, 1, 2, 9), BAD);
        }
        for (int sheet : NO_SHEETS) L.keeps("sheet " + sheet, Trees::rich, x -> x.film(16, sheet, 2, 0), BAD);
        for (int lane : NO_LANES) {
            L.keeps("lane " + lane, Trees::rich, x -> x.film(16, 1, lane, 0), BAD);
            L.keeps("ahead of null, lane " + lane, Trees::rich, x -> x.film(16, 3, lane, 0), BAD);
        }
    }

    private static void filmNull() {
        L.sentence("Promise 26", "NULL");
        L.keeps("missing", Trees::rich, x -> x.film(16, 3, 2, 0), NULL);
        L.keeps("ahead of index", Trees::rich, x -> x.film(31, 3, 2, -1), NULL);
    }

    private static void filmCast() {
        L.sentence("Promise 26", "CAST");
        for (int lane = 0; lane < 4; lane++) {
            int l = lane;
            if (l != 2) L.keeps("lane " + l, Trees::rich, x -> x.film(16, 1, l, 0), CAST);
            if (l != 2) L.keeps("ahead of index, lane " + l, Trees::rich, x -> x.film(16, 1, l, 9), CAST);
        }
    }

    private static void filmIndex() {
        L.sentence("Promise 26", "INDEX.");
        for (int i : new int[] {-1, 2, 5, 6, 7, LEAST, MOST, MOST - 4}) {
            L.keeps("i " + i, Trees::rich, x -> x.film(16, 1, 2, i), INDEX);
        }
        L.keeps("3 items", Trees::rich, x -> x.film(16, 0, 1, 0), INDEX);
        L.keeps("none", Trees::rich, x -> x.film(16, 2, 3, 0), INDEX);
        for (int size = 0; size <= 24; size++) {
            for (int i = 0; i <= size + 1; i++) {
                KeyTrees x = Trees.sleeper();
                x.sheet(0, 0, size);
                L.is("i " + i + " of " + size, x.film(16, 0, 0, i), i + 5 <= size ? 5 : INDEX);
            }
        }
    }

    /** Keys of 128 and more as bytes are below 0, and as others they aren't; bytes end with 127. */
    private static void filmCuts() {
        L.sentence("Promise 26", "their lowest bits");
        Limits.Steps many = x -> {
            for (int round = 0; round < 25; round++) Trees.tell(x, "+0!-0!");
            x.come(0);
            x.batch();
        };
        // keys 125 to 129, of 104 letters; then more letters, by which 129 is one
        int[] due = {1, 1, 1, NOT, NOT};
        for (int lane = 0; lane < 4; lane++) {
            KeyTrees x = new KeyTrees();
            many.tell(x);
            x.sheet(0, lane, 5);
            x.film(16, 0, lane, 0);
            L.is("16's key", x.node(16, 0), 125);
            L.is("1's key", x.node(1, 0), 129);
            for (int round = 0; round < 7; round++) Trees.tell(x, "-0!+0!");
            L.is("letters", x.count(5), 132);
            for (int j = 0; j < 5; j++) L.is("item " + j, x.got(0, 0, lane, j, 1), lane == 0 ? due[j] : 1);
        }
    }

    // ---- promise 27

    private static void sheetAnswers() {
        L.sentence("Promise 27", "A SHEET holds a new row of a LANE: n.");
        for (int lane = 0; lane < 4; lane++) {
            for (int n = 0; n <= 24; n++) {
                KeyTrees x = Trees.sleeper();
                Trees.row(x, 0, 1, 99, 99, 99, 99, 99, 99, 99, 99, 99, 99, 99, 99, 99, 99, 99, 99, 99, 99, 99, 99, 99,
                    99, 99, 99);
                L.is("a row of " + n, x.sheet(0, lane, n), n);
                if (n > 0) L.is("all new", x.got(0, 0, lane, 0, n), 1);
                L.is("no more", x.item(0, lane, n, 0), INDEX);
                L.is("dropped", x.drop(0), n);
            }
        }
        L.alike("the others are as they were", x -> {
            Trees.rich(x);
            x.sheet(3, 0, 24);
            x.drop(3);
        }, Trees::rich);
    }

    private static void sheetBad() {
        L.sentence("Promise 27", "BAD: also n above 24");
        for (int n : new int[] {25, 26, MOST}) {
            L.keeps("n " + n, Trees::rich, x -> x.sheet(0, 1, n), BAD);
            L.keeps("of a missing one, n " + n, Trees::rich, x -> x.sheet(3, 1, n), BAD);
        }
        for (int sheet : NO_SHEETS) {
            L.keeps("sheet " + sheet, Trees::rich, x -> x.sheet(sheet, 1, 3), BAD);
            L.keeps("ahead of size, sheet " + sheet, Trees::rich, x -> x.sheet(sheet, 1, -1), BAD);
        }
        for (int lane : NO_LANES) {
            L.keeps("lane " + lane, Trees::rich, x -> x.sheet(0, lane, 3), BAD);
            L.keeps("ahead of size, lane " + lane, Trees::rich, x -> x.sheet(0, lane, -1), BAD);
        }
    }

    private static void sheetSize() {
        L.sentence("Promise 27", "SIZE: n below 0.");
        for (int n : new int[] {-1, -2, LEAST}) {
            L.keeps("n " + n, Trees::rich, x -> x.sheet(0, 1, n), SIZE);
            L.keeps("of another lane, n " + n, Trees::rich, x -> x.sheet(0, 3, n), SIZE);
            L.keeps("of a missing one, n " + n, Trees::rich, x -> x.sheet(3, 0, n), SIZE);
        }
    }

    // ---- promise 28

    private static void dropAnswers() {
        L.sentence("Promise 28", "A SHEET holds nothing: how many items it had.");
        for (int sheet = 0; sheet < 4; sheet++) {
            for (int n = 0; n <= 24; n++) {
                KeyTrees x = new KeyTrees();
                x.sheet(sheet, n % 4, n);
                L.is("drop of " + n, x.drop(sheet), n);
                L.is("nothing", x.drop(sheet), NULL);
                L.is("no row", x.item(sheet, n % 4, 0, 0), NULL);
            }
        }
        KeyTrees x = new KeyTrees();
        Trees.rich(x);
        x.drop(0);
        L.is("another", x.drop(1), 6);
        L.is("a new row", x.sheet(0, 1, 2), 2);
        L.is("of new items", x.got(0, 0, 1, 0, 2), 1);
    }

    private static void dropRefused() {
        L.sentence("Promise 28", "BAD; NULL.");
        for (int sheet : NO_SHEETS) L.keeps("sheet " + sheet, Trees::rich, x -> x.drop(sheet), BAD);
        L.keeps("missing", Trees::rich, x -> x.drop(3), NULL);
        L.keeps("dropped", x -> {
            Trees.rich(x);
            x.drop(2);
        }, x -> x.drop(2), NULL);
    }

    // ---- promise 29

    private static void itemAnswers() {
        L.sentence("Promise 29", "Item i of a SHEET, taken as a row of a LANE, becomes v, its lowest bits: 1.");
        for (int i = 0; i < 24; i++) {
            KeyTrees x = Trees.sleeper();
            x.sheet(0, 2, 24);
            L.is("item " + i, x.item(0, 2, i, 99), 1);
            for (int j = 0; j < 24; j++) L.is(j + " behind " + i, x.got(0, 0, 2, j, 1), i == j ? NOT : 1);
            L.is("again", x.item(0, 2, i, 16), 1);
            L.is("all of them", x.got(0, 0, 2, 0, 24), 1);
        }
        KeyTrees x = new KeyTrees();
        Trees.rich(x);
        x.item(0, 1, 0, 14);
        L.is("the item alone", x.got(3, 0, 1, 1, 2), 1);
        L.is("another sheet is as it was", x.got(3, 1, 2, 0, 1), NOT);
    }

    private static void itemBad() {
        L.sentence("Promise 29", "BAD");
        for (int sheet : NO_SHEETS) L.keeps("sheet " + sheet, Trees::rich, x -> x.item(sheet, 1, 0, 14), BAD);
        for (int lane : NO_LANES) {
            L.keeps("lane " + lane, Trees::rich, x -> x.item(0, lane, 0, 14), BAD);
            L.keeps("ahead of null, lane " + lane, Trees::rich, x -> x.item(3, lane, 0, 14), BAD);
            L.keeps("ahead of index, lane " + lane, Trees::rich, x -> x.item(0, lane, 3, 14), BAD);
        }
    }

    private static void itemNull() {
        L.sentence("Promise 29", "NULL");
        for (int i : new int[] {0, -1, 24, MOST}) {
            L.keeps("missing, i " + i, Trees::rich, x -> x.item(3, 1, i, 14), NULL);
        }
    }

    private static void itemCast() {
        L.sentence("Promise 29", "CAST");
        for (int lane : new int[] {0, 2, 3}) {
            for (int i : new int[] {0, -1, 3}) {
                L.keeps("lane " + lane + ", i " + i, Trees::rich, x -> x.item(0, lane, i, 14), CAST);
            }
        }
        L.keeps("of no items", Trees::rich, x -> x.item(2, 0, 0, 14), CAST);
    }

    private static void itemIndex() {
        L.sentence("Promise 29", "INDEX.");
        for (int i : new int[] {-1, 3, 4, LEAST, MOST}) {
            L.keeps("i " + i, Trees::rich, x -> x.item(0, 1, i, 14), INDEX);
        }
        L.keeps("of no items", Trees::rich, x -> x.item(2, 3, 0, 14), INDEX);
        KeyTrees x = new KeyTrees();
        Trees.rich(x);
        L.is("the first", x.item(0, 1, 0, 14), 1);
        L.is("the last", x.item(0, 1, 2, 14), 1);
    }

    /** Of 160 letters 127 is one, and so is 128, but for bytes. */
    private static void itemCuts() {
        L.sentence("Terms", "0 bytes, 1 shorts, 2 ints, 3 longs (all with a sign)");
        long[] items = {0, 127, 128, 159, 160, 255, 256, 256 + 127, 256 + 128, 256 - 1, -256, -256 + 127, -128, -1,
            32767, 32768, 65535, 65536, 65536 + 159, 65536 + 160, -65536, -65536 + 5, -32768,
            1L << 31, (1L << 31) - 1, (1L << 32) - 1, 1L << 32, (1L << 32) + 159, (1L << 32) + 160, -(1L << 32) + 5,
            Long.MIN_VALUE, Long.MIN_VALUE + 5, Long.MAX_VALUE};
        KeyTrees x = new KeyTrees();
        Trees.with160Letters(x);
        for (int lane = 0; lane < 4; lane++) {
            x.sheet(0, lane, 1);
            for (long item : items) {
                long cut = lane == 0 ? (byte) item : lane == 1 ? (short) item : lane == 2 ? (int) item : item;
                L.is("item " + item + " of lane " + lane, x.item(0, lane, 0, item), 1);
                int due = cut >= 0 && cut < 160 ? 1 : NOT;
                L.is("is a letter: " + item + " of lane " + lane, x.got(7, 0, lane, 0, 1), due);
            }
        }
    }

    // ---- promise 30

    private static void copyAnswers() {
        L.sentence("Promise 30", "n items of a SHEET from i on come to another one (or the same) from j on");
        for (int lane = 0; lane < 4; lane++) {
            for (int n = 0; n <= 24; n++) {
                KeyTrees x = Trees.sleeper();
                x.sheet(0, lane, 24);
                long[] nine = new long[24];
                java.util.Arrays.fill(nine, 99);
                Trees.row(x, 3, lane, nine);
                int i = (24 - n) / 2;
                int j = 24 - n;
                L.is("copy of " + n, x.copy(0, i, 3, j, n), n);
                for (int item = 0; item < 24; item++) {
                    L.is(item + " behind a copy of " + n, x.got(0, 3, lane, item, 1), item < j ? NOT : 1);
                }
                L.is("where they were", x.got(0, 0, lane, 0, 24), 1);
            }
        }
    }

    private static void copyAsIfTakenAhead() {
        L.sentence("Promise 30", "as if all were taken ahead: n.");
        for (int move = -3; move <= 3; move++) {
            int by = move;
            KeyTrees x = Trees.sleeper();
            Trees.row(x, 0, 3, 99, 99, 99, 14, 16, 99, 0, 99, 99, 99);
            L.is("by " + by, x.copy(0, 3, 0, 3 + by, 4), 4);
            L.is("two letters, by " + by, x.got(3, 0, 3, 3 + by, 2), 1);
            L.is("no letter, by " + by, x.got(3, 0, 3, 5 + by, 1), NOT);
            L.is("a letter, by " + by, x.got(3, 0, 3, 6 + by, 1), 0);
            L.is("the first is as it was, by " + by, x.got(3, 0, 3, 0, 1), by == -3 ? 0 : NOT);
            L.is("the last is as it was, by " + by, x.got(3, 0, 3, 9, 1), by == 3 ? 0 : NOT);
        }
    }

    private static void copyBad() {
        L.sentence("Promise 30", "BAD");
        for (int sheet : NO_SHEETS) {
            L.keeps("from " + sheet, Trees::rich, x -> x.copy(sheet, 0, 0, 0, 1), BAD);
            L.keeps("to " + sheet, Trees::rich, x -> x.copy(0, 0, sheet, 0, 1), BAD);
            L.keeps("ahead of null, from " + sheet, Trees::rich, x -> x.copy(sheet, 0, 3, 0, 1), BAD);
            L.keeps("ahead of null, to " + sheet, Trees::rich, x -> x.copy(3, 0, sheet, 0, 1), BAD);
            L.keeps("ahead of index, to " + sheet, Trees::rich, x -> x.copy(0, -1, sheet, 0, -1), BAD);
        }
    }

    private static void copyNull() {
        L.sentence("Promise 30", "NULL (either)");
        L.keeps("from", Trees::rich, x -> x.copy(3, 0, 0, 0, 1), NULL);
        L.keeps("to", Trees::rich, x -> x.copy(0, 0, 3, 0, 1), NULL);
        L.keeps("both", Trees::rich, x -> x.copy(3, 0, 3, 0, 1), NULL);
        L.keeps("of none", Trees::rich, x -> x.copy(3, 0, 0, 0, 0), NULL);
        L.keeps("ahead of index, from", Trees::rich, x -> x.copy(3, 0, 0, 9, -1), NULL);
        L.keeps("ahead of index, to", Trees::rich, x -> x.copy(0, -1, 3, 0, 1), NULL);
    }

    private static void copyCast() {
        L.sentence("Promise 30", "CAST: of unlike LANES");
        for (int from = 0; from < 4; from++) {
            for (int to = 0; to < 4; to++) {
                KeyTrees x = new KeyTrees();
                x.sheet(0, from, 3);
                x.sheet(1, to, 3);
                L.is(from + " to " + to, x.copy(0, 0, 1, 0, 3), from == to ? 3 : CAST);
                L.is(from + " to " + to + " of none", x.copy(0, 0, 1, 0, 0), from == to ? 0 : CAST);
                L.is(from + " to " + to + ", ahead of index", x.copy(0, 4, 1, 0, 1), from == to ? INDEX : CAST);
            }
        }
        L.keeps("unlike", Trees::rich, x -> x.copy(0, 0, 1, 0, 1), CAST);
        L.keeps("unlike, of no items", Trees::rich, x -> x.copy(2, 0, 0, 0, 0), CAST);
        L.keeps("unlike, ahead of index", Trees::rich, x -> x.copy(0, 0, 1, 0, -1), CAST);
    }

    private static void copyIndex() {
        L.sentence("Promise 30", "INDEX (n below 0, too).");
        Limits.Steps two = x -> {
            Trees.rich(x);
            Trees.row(x, 3, 1, 99, 99);
        };
        for (int n : new int[] {-1, -2, 3, 4, 24, 25, LEAST, MOST}) {
            L.keeps("n " + n, two, x -> x.copy(0, 0, 3, 0, n), INDEX);
            L.keeps("to itself, n " + n, two, x -> x.copy(3, 0, 3, 0, n), INDEX);
        }
        for (int i : new int[] {-1, 2, 3, 4, LEAST, MOST, MOST - 1}) {
            L.keeps("i " + i, two, x -> x.copy(0, i, 3, 0, 2), INDEX);
        }
        for (int j : new int[] {-1, 1, 2, 3, LEAST, MOST, MOST - 1}) {
            L.keeps("j " + j, two, x -> x.copy(0, 1, 3, j, 2), INDEX);
        }
        for (int n : new int[] {-1, LEAST}) {
            L.keeps("n, with i and j at the ends, " + n, two, x -> x.copy(0, 3, 3, 2, n), INDEX);
            L.keeps("n, with i and j above 0, " + n, two, x -> x.copy(0, 1, 3, 1, n), INDEX);
        }
        KeyTrees x = new KeyTrees();
        two.tell(x);
        L.is("as many as there are", x.copy(0, 1, 3, 0, 2), 2);
        L.is("they came", x.got(3, 3, 1, 0, 2), 1);
    }

    private static void copyOfNone() {
        L.sentence("Terms", "INDEX also where no item is taken, if i, j is below 0, or above how many there are");
        Limits.Steps two = x -> {
            Trees.rich(x);
            Trees.row(x, 3, 1, 99, 99);
        };
        for (int i : new int[] {-1, 4, 5, LEAST, MOST}) L.keeps("i " + i, two, x -> x.copy(0, i, 3, 0, 0), INDEX);
        for (int j : new int[] {-1, 3, 4, LEAST, MOST}) L.keeps("j " + j, two, x -> x.copy(0, 0, 3, j, 0), INDEX);
        for (int i = 0; i <= 3; i++) {
            for (int j = 0; j <= 2; j++) {
                int from = i;
                int to = j;
                L.keeps("none from " + i + " to " + j, two, x -> x.copy(0, from, 3, to, 0), 0);
            }
        }
        L.keeps("none of no items", two, x -> x.copy(2, 0, 2, 0, 0), 0);
        L.keeps("none of no items, i 1", two, x -> x.copy(2, 1, 2, 0, 0), INDEX);
        L.keeps("none of no items, j 1", two, x -> x.copy(2, 0, 2, 1, 0), INDEX);
    }
}
