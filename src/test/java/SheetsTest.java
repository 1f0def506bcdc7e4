/** Promises 25 to 30: sheets that may be missing. */
public final class SheetsTest {
    private static final Due DUE = new Due("SheetsTest");

    private SheetsTest() {
    }

    public static void main(String[] args) {
        got();
        gotInOrder();
        gotIsRefused();
        film();
        sheet();
        drop();
        item();
        itemsAreCut();
        copy();
        copyWithin();
        copyIsRefused();
        DUE.end();
    }

    /** A sheet with letters told by their numbers. */
    private static void letters(KeyTrees x, int sheet, int lane, int... numbers) {
        x.sheet(sheet, lane, numbers.length);
        for (int i = 0; i < numbers.length; i++) x.item(sheet, lane, i, numbers[i]);
    }

    private static void got() {
        KeyTrees x = Trees.sleeper();
        letters(x, 0, 3, 14, 15, 16);
        DUE.is("3 by all", x.got(3, 0, 3, 0, 3), 1);
        DUE.is("3 without the last", x.got(3, 0, 3, 0, 2), 0);
        DUE.is("3 without the first", x.got(3, 0, 3, 1, 2), 0);
        DUE.is("0 holds it already", x.got(0, 0, 3, 0, 1), 1);
        DUE.is("1 left, and can't", x.got(1, 0, 3, 0, 3), 0);
        DUE.is("9 never came", x.got(9, 0, 3, 0, 3), 0);
        DUE.is("nothing was read", x.member(3, 1), 5);
        DUE.is("nothing was held", x.key(15, 3), 0);
        DUE.is("unread as ever", x.member(3, 4), 3);
        for (int lane = 0; lane < 4; lane++) {
            letters(x, 1, lane, 14, 16);
            DUE.is("lane " + lane, x.got(3, 1, lane, 0, 2), 1);
        }
    }

    private static void gotInOrder() {
        KeyTrees x = Trees.sleeper();
        letters(x, 0, 0, 16, 14, 14, 16);
        DUE.is("in the wrong order", x.got(3, 0, 0, 0, 2), 0);
        DUE.is("one twice", x.got(3, 0, 0, 0, 3), 0);
        DUE.is("then the other", x.got(3, 0, 0, 0, 4), 1);
        int[] many = new int[24];
        many[22] = 14;
        many[23] = 16;
        letters(x, 0, 2, many);
        DUE.is("24", x.got(3, 0, 2, 0, 24), 1);
    }

    private static void gotIsRefused() {
        KeyTrees x = Trees.sleeper();
        letters(x, 0, 1, 14, 17, -1, 0);
        DUE.is("17 is no letter", x.got(3, 0, 1, 0, 2), KeyTrees.NOT);
        DUE.is("-1 is no letter", x.got(3, 0, 1, 2, 1), KeyTrees.NOT);
        DUE.is("0 is one", x.got(3, 0, 1, 3, 1), 0);
        DUE.is("the last behind a wrong one", x.got(3, 0, 1, 1, 3), KeyTrees.NOT);
        DUE.is("m -1", x.got(-1, 0, 1, 0, 1), KeyTrees.BAD);
        DUE.is("m 16", x.got(16, 0, 1, 0, 1), KeyTrees.BAD);
        DUE.is("sheet -1", x.got(3, -1, 1, 0, 1), KeyTrees.BAD);
        DUE.is("sheet 4", x.got(3, 4, 1, 0, 1), KeyTrees.BAD);
        DUE.is("lane -1", x.got(3, 0, -1, 0, 1), KeyTrees.BAD);
        DUE.is("lane 4", x.got(3, 0, 4, 0, 1), KeyTrees.BAD);
        DUE.is("n 0", x.got(3, 0, 1, 0, 0), KeyTrees.BAD);
        DUE.is("n 25", x.got(3, 0, 1, 0, 25), KeyTrees.BAD);
        DUE.is("bad ahead of null", x.got(16, 1, 1, 0, 1), KeyTrees.BAD);
        DUE.is("null", x.got(3, 1, 1, 0, 1), KeyTrees.NULL);
        DUE.is("null ahead of index", x.got(3, 1, 1, -1, 1), KeyTrees.NULL);
        DUE.is("cast", x.got(3, 0, 2, 0, 1), KeyTrees.CAST);
        DUE.is("cast ahead of index", x.got(3, 0, 0, 9, 1), KeyTrees.CAST);
        DUE.is("index", x.got(3, 0, 1, 3, 2), KeyTrees.INDEX);
        DUE.is("index ahead of not", x.got(3, 0, 1, 1, 4), KeyTrees.INDEX);
        DUE.is("index below", x.got(3, 0, 1, -1, 1), KeyTrees.INDEX);
        DUE.is("index far above", x.got(3, 0, 1, Integer.MAX_VALUE, 24), KeyTrees.INDEX);
        DUE.is("index far below", x.got(3, 0, 1, Integer.MIN_VALUE, 24), KeyTrees.INDEX);
        x.sheet(2, 3, 1);
        x.item(2, 3, 0, 1L << 32);
        DUE.is("a long that ends like a letter", x.got(3, 2, 3, 0, 1), KeyTrees.NOT);
        Trees.tell(x, "-0-2-3!");
        DUE.is("no group key", x.got(3, 0, 1, 0, 1), KeyTrees.NONE);
        DUE.is("not ahead of none", x.got(3, 0, 1, 1, 1), KeyTrees.NOT);
        DUE.is("index ahead of none", x.got(3, 0, 1, 4, 1), KeyTrees.INDEX);
    }

    /** With all sitting, node v has key 31 - v. */
    private static void film() {
        int[] due = {8, 20, 26, 29, 30};
        for (int n = 0; n < 5; n++) {
            KeyTrees x = Trees.whole();
            letters(x, 0, 2, 99, 99, 99, 99, 99, 99, 99);
            DUE.is("film", x.film(23, 0, 2, 1), 5);
            DUE.isTrue("its item " + n, isItem(x, 0, 2, 1 + n, due[n]));
        }
        KeyTrees x = Trees.whole();
        letters(x, 0, 2, 0, 99, 99, 99, 99, 99, 0);
        x.film(23, 0, 2, 1);
        DUE.is("ahead of it", x.got(0, 0, 2, 0, 1), 1);
        DUE.is("behind it", x.got(0, 0, 2, 6, 1), 1);
        DUE.is("the last five", x.film(16, 0, 2, 2), 5);
        x.sheet(1, 3, 24);
        DUE.is("the last five of 24", x.film(16, 1, 3, 19), 5);
        DUE.is("over 24", x.film(16, 1, 3, 20), KeyTrees.INDEX);
        filmIsRefused();
        filmOfNoKeys();
        filmIsCut();
    }

    /** Whether an item is the number told: no letter in a book of as many, but one as soon as there's one more. */
    private static boolean isItem(KeyTrees x, int sheet, int lane, int i, int number) {
        write(x, number);
        boolean none = x.got(0, sheet, lane, i, 1) == KeyTrees.NOT;
        write(x, number + 1);
        return none && x.got(0, sheet, lane, i, 1) != KeyTrees.NOT;
    }

    /** A book begun anew until it has n letters: 4 more for one that comes, some more for what's left by 4. */
    private static void write(KeyTrees x, int n) {
        String[] ahead = {"+0!-0!", "+0+1!-1!-0!", "+0+1!-1!+1!-0-1!", "+0+1!-1!+1!-1!-0!"};
        x.begin();
        Trees.tell(x, ahead[n % 4]);
        while (x.count(5) < n) {
            x.come(0);
            x.batch();
            x.leave(0);
            x.batch();
        }
        DUE.is("letters of the test's own book", x.count(5), n);
    }

    private static void filmIsRefused() {
        KeyTrees x = Trees.whole();
        x.sheet(0, 2, 7);
        DUE.is("i 3 of 7", x.film(16, 0, 2, 3), KeyTrees.INDEX);
        DUE.is("i -1", x.film(16, 0, 2, -1), KeyTrees.INDEX);
        DUE.is("i far above", x.film(16, 0, 2, Integer.MAX_VALUE), KeyTrees.INDEX);
        DUE.is("15 is no leaf", x.film(15, 0, 2, 0), KeyTrees.BAD);
        DUE.is("32 is no leaf", x.film(32, 0, 2, 0), KeyTrees.BAD);
        DUE.is("sheet 4", x.film(16, 4, 2, 0), KeyTrees.BAD);
        DUE.is("sheet -1", x.film(16, -1, 2, 0), KeyTrees.BAD);
        DUE.is("lane 4", x.film(16, 0, 4, 0), KeyTrees.BAD);
        DUE.is("lane -1", x.film(16, 0, -1, 0), KeyTrees.BAD);
        DUE.is("null", x.film(16, 1, 2, 9), KeyTrees.NULL);
        DUE.is("cast", x.film(16, 0, 1, 9), KeyTrees.CAST);
    }

    private static void filmOfNoKeys() {
        KeyTrees x = Trees.after("+0!");
        x.sheet(3, 0, 5);
        DUE.is("film of a leaf that isn't live", x.film(31, 3, 0, 0), 5);
        for (int i = 0; i < 4; i++) DUE.is("no key is no letter", x.got(0, 3, 0, i, 1), KeyTrees.NOT);
        DUE.is("node 1's key 4, of 4 letters", x.got(0, 3, 0, 4, 1), KeyTrees.NOT);
        x.film(16, 3, 0, 0);
        for (int i = 0; i < 4; i++) DUE.is("keys 0 to 3 are letters, too", x.got(0, 3, 0, i, 1), 1);
    }

    /** Keys of 128 on are bytes below 0, which are no letters. */
    private static void filmIsCut() {
        KeyTrees x = Trees.whole();
        for (int round = 0; round < 4; round++) {
            Trees.tell(x, "-0-1-2-3-4-5-6-7-8-9-a-b-c-d-e-f!");
            Trees.tell(x, "+0+1+2+3+4+5+6+7+8+9+a+b+c+d+e+f!");
        }
        DUE.is("16's key", x.node(16, 0), 139);
        DUE.is("letters", x.count(5), 150);
        x.sheet(0, 0, 5);
        x.sheet(1, 1, 5);
        DUE.is("bytes", x.film(16, 0, 0, 0), 5);
        DUE.is("shorts", x.film(16, 1, 1, 0), 5);
        DUE.is("139 as a byte is below 0", x.got(4, 0, 0, 0, 1), KeyTrees.NOT);
        DUE.is("139 as a short is a letter", x.got(4, 1, 1, 0, 1), 1);
    }

    private static void sheet() {
        KeyTrees x = new KeyTrees();
        DUE.is("24", x.sheet(0, 0, 24), 24);
        DUE.is("0", x.sheet(3, 3, 0), 0);
        DUE.is("25", x.sheet(0, 0, 25), KeyTrees.BAD);
        DUE.is("-1", x.sheet(0, 0, -1), KeyTrees.SIZE);
        DUE.is("least", x.sheet(0, 0, Integer.MIN_VALUE), KeyTrees.SIZE);
        DUE.is("sheet -1", x.sheet(-1, 0, 1), KeyTrees.BAD);
        DUE.is("sheet 4", x.sheet(4, 0, 1), KeyTrees.BAD);
        DUE.is("lane -1", x.sheet(0, -1, 1), KeyTrees.BAD);
        DUE.is("lane 4", x.sheet(0, 4, 1), KeyTrees.BAD);
        DUE.is("bad ahead of size", x.sheet(4, 0, -1), KeyTrees.BAD);
        DUE.is("refused, the row stays", x.item(0, 0, 23, 1), 1);
        DUE.is("a new row of another lane", x.sheet(0, 2, 3), 3);
        DUE.is("as that lane", x.item(0, 2, 2, 1), 1);
        DUE.is("not as the old", x.item(0, 0, 2, 1), KeyTrees.CAST);
        DUE.is("of that length", x.item(0, 2, 3, 1), KeyTrees.INDEX);
        KeyTrees y = Trees.sleeper();
        letters(y, 0, 1, 99, 99);
        y.sheet(0, 1, 2);
        DUE.is("a new row is of zeros", y.got(0, 0, 1, 0, 2), 1);
        DUE.is("no doing", y.count(8), 4);
    }

    private static void drop() {
        KeyTrees x = new KeyTrees();
        x.sheet(1, 2, 9);
        DUE.is("drop", x.drop(1), 9);
        DUE.is("dropped", x.drop(1), KeyTrees.NULL);
        DUE.is("nothing to take", x.item(1, 2, 0, 1), KeyTrees.NULL);
        DUE.is("never there", x.drop(0), KeyTrees.NULL);
        DUE.is("sheet -1", x.drop(-1), KeyTrees.BAD);
        DUE.is("sheet 4", x.drop(4), KeyTrees.BAD);
        x.sheet(3, 0, 0);
        DUE.is("of no items", x.drop(3), 0);
    }

    private static void item() {
        KeyTrees x = Trees.sleeper();
        x.sheet(0, 3, 2);
        DUE.is("item", x.item(0, 3, 1, 16), 1);
        DUE.is("it is there", x.got(3, 0, 3, 0, 2), 0);
        DUE.is("another", x.item(0, 3, 0, 14), 1);
        DUE.is("both are there", x.got(3, 0, 3, 0, 2), 1);
        DUE.is("i -1", x.item(0, 3, -1, 1), KeyTrees.INDEX);
        DUE.is("i 2", x.item(0, 3, 2, 1), KeyTrees.INDEX);
        DUE.is("i far above", x.item(0, 3, Integer.MAX_VALUE, 1), KeyTrees.INDEX);
        DUE.is("i far below", x.item(0, 3, Integer.MIN_VALUE, 1), KeyTrees.INDEX);
        DUE.is("cast", x.item(0, 2, 9, 1), KeyTrees.CAST);
        DUE.is("null", x.item(1, 2, 9, 1), KeyTrees.NULL);
        DUE.is("sheet 4", x.item(4, 2, 0, 1), KeyTrees.BAD);
        DUE.is("sheet -1", x.item(-1, 2, 0, 1), KeyTrees.BAD);
        DUE.is("lane 4", x.item(0, 4, 0, 1), KeyTrees.BAD);
        DUE.is("lane -1", x.item(0, -1, 0, 1), KeyTrees.BAD);
        x.sheet(2, 0, 0);
        DUE.is("of no items", x.item(2, 0, 0, 1), KeyTrees.INDEX);
    }

    /** A letter's number with bits above the lane's is that letter, and a sign bit makes it none. */
    private static void itemsAreCut() {
        KeyTrees x = Trees.sleeper();
        int[] bits = {8, 16, 32};
        for (int lane = 0; lane < 3; lane++) {
            x.sheet(0, lane, 1);
            x.item(0, lane, 0, (5L << bits[lane]) + 3);
            DUE.is("lowest bits of lane " + lane, x.got(0, 0, lane, 0, 1), 1);
            x.item(0, lane, 0, 1L << bits[lane] - 1);
            DUE.is("sign of lane " + lane, x.got(0, 0, lane, 0, 1), KeyTrees.NOT);
            x.item(0, lane, 0, (1L << bits[lane]) - 1);
            DUE.is("-1 of lane " + lane, x.got(0, 0, lane, 0, 1), KeyTrees.NOT);
            x.sheet(0, 3, 1);
            x.item(0, 3, 0, 1L << bits[lane]);
            DUE.is("all bits of a long", x.got(0, 0, 3, 0, 1), KeyTrees.NOT);
        }
    }

    private static void copy() {
        KeyTrees x = Trees.sleeper();
        letters(x, 0, 1, 99, 14, 16, 99);
        letters(x, 1, 1, 99, 99, 99, 99, 0);
        DUE.is("copy", x.copy(0, 1, 1, 2, 2), 2);
        DUE.is("what came", x.got(3, 1, 1, 2, 2), 1);
        DUE.is("beside it on the left", x.got(3, 1, 1, 1, 1), KeyTrees.NOT);
        DUE.is("beside it on the right", x.got(3, 1, 1, 4, 1), 0);
        DUE.is("where it was", x.got(3, 0, 1, 1, 2), 1);
        DUE.is("none", x.copy(0, 0, 1, 0, 0), 0);
        DUE.is("none, at the ends", x.copy(0, 4, 1, 5, 0), 0);
        DUE.is("all", x.copy(0, 0, 1, 1, 4), 4);
        DUE.is("no doing", x.count(8), 4);
    }

    private static void copyWithin() {
        KeyTrees x = Trees.sleeper();
        letters(x, 0, 0, 14, 16, 99, 99);
        DUE.is("up", x.copy(0, 0, 0, 1, 3), 3);
        DUE.is("as if taken ahead", x.got(3, 0, 0, 1, 2), 1);
        DUE.is("the last is the wrong one", x.got(3, 0, 0, 3, 1), KeyTrees.NOT);
        letters(x, 0, 0, 99, 14, 16, 0);
        DUE.is("down", x.copy(0, 1, 0, 0, 3), 3);
        DUE.is("as if taken ahead, too", x.got(3, 0, 0, 0, 2), 1);
        DUE.is("the rest", x.got(3, 0, 0, 2, 2), 0);
    }

    private static void copyIsRefused() {
        KeyTrees x = Trees.sleeper();
        x.sheet(0, 1, 4);
        x.sheet(1, 1, 2);
        x.sheet(2, 2, 4);
        DUE.is("from 4", x.copy(4, 0, 1, 0, 1), KeyTrees.BAD);
        DUE.is("from -1", x.copy(-1, 0, 1, 0, 1), KeyTrees.BAD);
        DUE.is("to 4", x.copy(0, 0, 4, 0, 1), KeyTrees.BAD);
        DUE.is("to -1", x.copy(0, 0, -1, 0, 1), KeyTrees.BAD);
        DUE.is("bad ahead of null", x.copy(3, 0, 4, 0, 1), KeyTrees.BAD);
        DUE.is("null from", x.copy(3, 0, 0, 0, 1), KeyTrees.NULL);
        DUE.is("null to", x.copy(0, 0, 3, 0, 1), KeyTrees.NULL);
        DUE.is("null ahead of index", x.copy(0, 9, 3, 0, 1), KeyTrees.NULL);
        DUE.is("cast", x.copy(0, 0, 2, 0, 1), KeyTrees.CAST);
        DUE.is("cast ahead of index", x.copy(0, 9, 2, 0, 1), KeyTrees.CAST);
        DUE.is("cast of none", x.copy(0, 0, 2, 0, 0), KeyTrees.CAST);
        DUE.is("n -1", x.copy(0, 0, 1, 0, -1), KeyTrees.INDEX);
        DUE.is("n least", x.copy(0, 0, 1, 0, Integer.MIN_VALUE), KeyTrees.INDEX);
        DUE.is("n over from", x.copy(0, 3, 1, 0, 2), KeyTrees.INDEX);
        DUE.is("n over to", x.copy(0, 0, 1, 1, 2), KeyTrees.INDEX);
        DUE.is("n far above", x.copy(0, 1, 1, 1, Integer.MAX_VALUE), KeyTrees.INDEX);
        DUE.is("i -1 of none", x.copy(0, -1, 1, 0, 0), KeyTrees.INDEX);
        DUE.is("i 5 of none", x.copy(0, 5, 1, 0, 0), KeyTrees.INDEX);
        DUE.is("j -1 of none", x.copy(0, 0, 1, -1, 0), KeyTrees.INDEX);
        DUE.is("j 3 of none", x.copy(0, 0, 1, 3, 0), KeyTrees.INDEX);
        DUE.is("j least", x.copy(0, 0, 1, Integer.MIN_VALUE, 1), KeyTrees.INDEX);
    }
}
