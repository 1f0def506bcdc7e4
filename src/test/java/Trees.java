/** Objects brought to a state that tests begin with. */
final class Trees {
    private Trees() {
    }

    /** An object on which a text was done. */
    static KeyTrees after(String text) {
        KeyTrees x = new KeyTrees();
        tell(x, text);
        return x;
    }

    /** Types a text and reads it: what reading answers. */
    static int tell(KeyTrees x, String text) {
        for (int i = 0; i < text.length(); i++) {
            x.type(text.charAt(i));
        }
        return x.read();
    }

    /** All sixteen sit, at 31 keys and 30 letters. */
    static KeyTrees whole() {
        return after("+0+1+2+3+4+5+6+7+8+9+a+b+c+d+e+f!");
    }

    /**
     * Members 0 to 3 sit at 16, 24, 20, 28; 3 sleeps, and hasn't read the letters 14 to 16 by which 1
     * went: key 15 of node 3 under key 8 of node 7, key 16 of node 1 under keys 13 and 15.
     */
    static KeyTrees sleeper() {
        KeyTrees x = after("+0+1+2+3!");
        x.late(3, 1);
        x.leave(1);
        x.batch();
        return x;
    }

    /**
     * Something of everything: 0, 2, 3 sit at 16, 20, 28; 3 is late, 1 has left, 9 is coming, 2 leaving, the
     * others never came; 17 keys, 17 letters, 2 batches; six doings that may be undone, the draw 77, an
     * image of ahead of the last five, two letters on the tape; sheets of shorts and of ints, one without
     * items, one missing. 3 would hold the group key by the letters 14 and 16.
     */
    static void rich(KeyTrees x) {
        row(x, 0, 1, 99, 14, 16);
        row(x, 1, 2, 99, 99, 99, 99, 99, 99);
        x.sheet(2, 3, 0);
        tell(x, "+0+1+2+3!");
        x.seed(77);
        x.image();
        x.late(3, 1);
        x.leave(1);
        x.batch();
        x.come(9);
        x.leave(2);
        x.type('+');
        x.type('5');
    }

    /** A sheet holds these items. */
    static void row(KeyTrees x, int sheet, int lane, long... items) {
        x.sheet(sheet, lane, items.length);
        for (int i = 0; i < items.length; i++) x.item(sheet, lane, i, items[i]);
    }

    /** A drift, brought to letters that no short run of other calls makes; 0 lacks the keys of four nodes. */
    static void with159Letters(KeyTrees x) {
        x.seed(140);
        for (int drift = 0; drift < 3; drift++) x.drift(40);
        x.drift(3);
        lacking(x, 0, 11);
    }

    /** The same, and 6 lacks keys; 4, 12, 13 are late, 7 and 9 hold all. */
    static void with160Letters(KeyTrees x) {
        x.seed(388);
        for (int drift = 0; drift < 3; drift++) x.drift(40);
        x.drift(1);
        lacking(x, 6, 11);
    }

    /** One member leaves, and another loses the letters by which it's told. */
    static void lacking(KeyTrees x, int m, int leaver) {
        x.late(m, 1);
        x.leave(leaver);
        x.batch();
        x.lose(m, 40);
        x.late(m, 0);
    }

    /** All sit, 0 is late, and hasn't read 45 letters. */
    static void with45Unread(KeyTrees x) {
        tell(x, "+0+1+2+3+4+5+6+7+8+9+a+b+c+d+e+f!");
        x.late(0, 1);
        for (int round = 0; round < 3; round++) {
            x.leave(15);
            x.batch();
            x.come(15);
            x.batch();
        }
    }

    /** The draw that becomes this one by a turn of a drift. */
    static int seedAheadOf(long draw) {
        long inverse = 1;
        // Newton's steps, each of which doubles the bits that are right
        for (int step = 0; step < 6; step++) inverse = inverse * (2 - 1103515245L * inverse);
        return (int) ((draw - 12345) * inverse & 0x7fffffffL);
    }

    /** A number that stands for what can be asked of a small object, in some 130 calls. */
    static long look(KeyTrees x) {
        long sum = 17;
        for (int what = 0; what <= 8; what++) sum = sum * 31 + x.count(what);
        for (int m = 0; m < 16; m++) {
            sum = sum * 31 + x.member(m, 0);
            sum = sum * 31 + x.member(m, 4);
        }
        for (int v = 1; v < 32; v++) sum = sum * 31 + x.node(v, 0);
        for (int k = 0; k < x.count(4); k++) sum = sum * 31 + x.key(k, 3);
        for (int i = 0; i < x.count(5); i++) sum = sum * 31 + x.letter(i, 1);
        return sum;
    }
}
