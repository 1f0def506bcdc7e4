/** Objects brought to a state that tests begin with. */
final class Trees {
    private Trees() {
    }

    /** An object on which a text was done. */
    static KeyTrees after(String text) {
        KeyTrees x = new KeyTrees();
        tell(x, text);
        return x;
    }

    /** Types a text and reads it: what reading answers. */
    static int tell(KeyTrees x, String text) {
        for (int i = 0; i < text.length(); i++) {
            x.type(text.charAt(i));
        }
        return x.read();
    }

    /** All sixteen sit, at 31 keys and 30 letters. */
    static KeyTrees whole() {
        return after("+0+1+2+3+4+5+6+7+8+9+a+b+c+d+e+f!");
    }

    /**
     * Members 0 to 3 sit at 16, 24, 20, 28; 3 sleeps, and hasn't read the letters 14 to 16 by which 1
     * went: key 15 of node 3 under key 8 of node 7, key 16 of node 1 under keys 13 and 15.
     */
    static KeyTrees sleeper() {
        KeyTrees x = after("+0+1+2+3!");
        x.late(3, 1);
        x.leave(1);
        x.batch();
        return x;
    }

    /** A number that stands for what can be asked of a small object, in some 130 calls. */
    static long look(KeyTrees x) {
        long sum = 17;
        for (int what = 0; what <= 8; what++) sum = sum * 31 + x.count(what);
        for (int m = 0; m < 16; m++) {
            sum = sum * 31 + x.member(m, 0);
            sum = sum * 31 + x.member(m, 4);
        }
        for (int v = 1; v < 32; v++) sum = sum * 31 + x.node(v, 0);
        for (int k = 0; k < x.count(4); k++) sum = sum * 31 + x.key(k, 3);
        for (int i = 0; i < x.count(5); i++) sum = sum * 31 + x.letter(i, 1);
        return sum;
    }
}
