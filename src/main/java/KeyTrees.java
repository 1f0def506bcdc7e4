import java.util.Arrays;

/**
 * Group keys in a tree. Members sit at leaves and hold the keys of all nodes above them; comings and
 * leavings are gathered and changed in batches, by letters that tell each new key to those beneath.
 *
 * <p>What is refused answers a number below 0. No object is made but in the constructor.
 */
public final class KeyTrees {
    public static final int BAD = -1, NOT = -2, FULL = -3, NONE = -4, NULL = -11, CAST = -12, INDEX = -13, SIZE = -14;

    private static final int MEMBERS = 16;
    private static final int SETS = 1 << MEMBERS;
    /** One more than the greatest node, so that a node is its own index. */
    private static final int NODES = 32;
    private static final int FIRST_LEAF = 16;
    private static final int NO_LEAF = 0;
    private static final int NEVER = -1;

    private static final int FULL_KEYS = 200;
    private static final int FULL_LETTERS = 160;
    /** The last batch that the book lets in may still write a whole tree. */
    private static final int KEY_ROOM = FULL_KEYS + NODES;
    private static final int LETTER_ROOM = FULL_LETTERS + NODES;

    private static final int UNDOES = 6;
    private static final int MOST_LOST = 40;
    private static final int MOST_TURNS = 40;
    private static final int MOST_GOT = 24;
    private static final int TAPE_ROOM = 90;
    private static final int FIRST_FAULT = -20;
    private static final int NO_FAULT = -1;
    private static final int DRAW_BITS = 0x7fffffff;

    private static final int SHEETS = 4;
    private static final int SHEET_ROOM = 24;
    private static final int LANES = 4;
    private static final int NO_LANE = -1;
    private static final int FILM_ITEMS = 5;

    private final Book now = new Book();
    private final Past past = new Past();
    private final Book imageBook = new Book();
    private final Past imagePast = new Past();
    private boolean imageTaken;
    private final Tape tape = new Tape();
    private final Sheet[] sheets = new Sheet[SHEETS];
    /** Scratch for batches that are only thought of. */
    private final Seats plan = new Seats();
    /** Scratch for keys that are only thought to be opened. */
    private final Ring ring = new Ring();

    public KeyTrees() {
        for (int s = 0; s < SHEETS; s++) {
            sheets[s] = new Sheet();
        }
    }

    // ---- 1 comings and leavings

    public int come(int m) {
        if (noMember(m)) return BAD;
        if (!now.mayCome(m)) return NOT;
        past.keep(now);
        now.addComer(m);
        return Integer.bitCount(now.comers);
    }

    public int leave(int m) {
        if (noMember(m)) return BAD;
        if (!now.mayLeave(m)) return NOT;
        past.keep(now);
        now.addLeaver(m);
        return Integer.bitCount(now.leavers);
    }

    public int batch() {
        int refusal = now.batchRefusal();
        if (refusal != 0) return refusal;
        past.keep(now);
        return now.changeAll();
    }

    public int late(int m, int v) {
        if (noMember(m) || v < 0 || v > 1) return BAD;
        boolean asleep = v == 1;
        boolean may = asleep ? now.isAwake(m) : now.isAsleep(m);
        if (!may) return NOT;
        past.keep(now);
        return asleep ? now.fallAsleep(m) : now.wakeUp(m);
    }

    public int lose(int m, int n) {
        if (noMember(m) || n < 1 || n > MOST_LOST) return BAD;
        if (!now.isAsleep(m)) return NOT;
        past.keep(now);
        return now.loseLetters(m, n);
    }

    public int mend(int m) {
        if (noMember(m)) return BAD;
        int refusal = now.mendRefusal(m);
        if (refusal != 0) return refusal;
        past.keep(now);
        return now.mendKeys(m);
    }

    public int begin() {
        if (now.keys.made == 0 && now.comers == 0) return NOT;
        past.keep(now);
        int made = now.keys.made;
        now.beginAnew();
        return made;
    }

    public int member(int m, int what) {
        if (noMember(m)) return BAD;
        switch (what) {
            case 0: return now.seats.sits(m) ? now.seats.leafOf[m] : NONE;
            case 1: return now.keys.heldBy(m);
            case 2: return now.groupKey() == NONE ? NONE : bit(now.keys.holdersOf(now.groupKey()), m);
            case 3: return bit(now.sleepers, m);
            case 4: return now.seats.sits(m) ? now.unread(m) : NONE;
            case 5: return bit(now.comers, m) + 2 * bit(now.leavers, m);
            default: return BAD;
        }
    }

    public int node(int v, int what) {
        if (v < 1 || v >= NODES) return BAD;
        int key = now.keys.ofNode[v];
        switch (what) {
            case 0: return key;
            case 1: return now.seats.sitters[v];
            case 2: return key == NONE ? NONE : now.keys.holdersOf(key);
            default: return BAD;
        }
    }

    public int key(int k, int what) {
        if (!now.keys.known(k)) return BAD;
        int v = now.keys.nodes[k];
        switch (what) {
            case 0: return v;
            case 1: return now.keys.batches[k];
            case 2: return now.keys.ofNode[v] == k ? 1 : 0;
            case 3: return now.keys.holders[k];
            default: return BAD;
        }
    }

    public int letter(int i, int what) {
        if (!now.letters.known(i)) return BAD;
        switch (what) {
            case 0: return now.letters.inside[i];
            case 1: return now.letters.under[i];
            case 2: return now.letters.batches[i];
            default: return BAD;
        }
    }

    public int count(int what) {
        switch (what) {
            case 0: return now.seats.all();
            case 1: return now.comers;
            case 2: return now.leavers;
            case 3: return now.sleepers;
            case 4: return now.keys.made;
            case 5: return now.letters.written;
            case 6: return now.batches;
            case 7: return now.seats.all() & ~now.keys.holdersOf(now.groupKey());
            case 8: return past.known;
            default: return BAD;
        }
    }

    // ---- 2 what is opened

    public int why(int m, int i) {
        if (noMember(m) || !now.letters.known(i)) return BAD;
        return now.whyShut(m, now.letters.under[i]);
    }

    public int opens(int set, int k) {
        if (set < 0 || set >= SETS || !now.keys.known(k)) return BAD;
        ring.take(now.keys, set);
        ring.openAll(now.letters);
        return ring.has(k) ? 1 : 0;
    }

    public int due(int what) {
        if (what < 0 || what > 1) return BAD;
        plan.take(now.seats);
        if (what == 0) return plan.lettersFor(plan.move(now.leavers, now.comers));
        return planSingles();
    }

    public int luck(int m, int c, int what) {
        if (noMember(m) || c < 0 || c > 10 || what < 0 || what > 1) return BAD;
        if (!now.seats.sits(m)) return NOT;
        int whole = what == 0 ? 10 - c : 10;
        int base = whole / commonOfTen(10 - c);
        int power = 1;
        for (int needed = now.lettersNeeded(m); needed > 0; needed--) {
            power *= base;
        }
        return power;
    }

    // ---- 3 what is done

    public int type(int letter) {
        if (letter < ' ' || letter > '~') return BAD;
        if (tape.size >= TAPE_ROOM) return FULL;
        tape.add((char) letter);
        return tape.size;
    }

    public int read() {
        int fault = tape.fault();
        int answer;
        if (fault == NO_FAULT) {
            past.keep(now);
            answer = doEvents();
        } else {
            answer = FIRST_FAULT - fault;
        }
        tape.size = 0;
        return answer;
    }

    public int drift(int n) {
        if (n < 1 || n > MOST_TURNS) return BAD;
        for (int turn = 0; turn < n; turn++) {
            past.keep(now);
            driftOnce();
        }
        return now.seats.all();
    }

    public int undo() {
        if (past.known == 0) return NONE;
        past.goBack(now);
        return past.known;
    }

    public int seed(int v) {
        if (v < 0) return BAD;
        int before = now.draw;
        now.draw = v;
        return before;
    }

    public int image() {
        imageBook.take(now);
        imagePast.take(past);
        imageTaken = true;
        return 1;
    }

    public int restore() {
        if (!imageTaken) return NONE;
        now.take(imageBook);
        past.take(imagePast);
        return 1;
    }

    // ---- sheets 0 .. 3: nothing (at first), or a row of a LANE: 0 bytes, 1 shorts, 2 ints, 3 longs
    // (all with a sign), of 0 to 24 items.

    public int got(int m, int sheet, int lane, int i, int n) {
        if (noMember(m) || noSheet(sheet) || noLane(lane) || n < 1 || n > MOST_GOT) return BAD;
        Sheet told = sheets[sheet];
        int refusal = told.refusal(lane, i, n);
        if (refusal != 0) return refusal;
        if (!toldLetters(told, i, n)) return NOT;
        int groupKey = now.groupKey();
        if (groupKey == NONE) return NONE;
        ring.take(now.keys, 1 << m);
        for (int j = i; j < i + n; j++) {
            ring.open(now.letters, (int) told.row[j]);
        }
        return ring.has(groupKey) ? 1 : 0;
    }

    public int film(int leaf, int sheet, int lane, int i) {
        if (leaf < FIRST_LEAF || leaf >= NODES || noSheet(sheet) || noLane(lane)) return BAD;
        Sheet to = sheets[sheet];
        int refusal = to.refusal(lane, i, FILM_ITEMS);
        if (refusal != 0) return refusal;
        int v = leaf;
        for (int j = 0; j < FILM_ITEMS; j++) {
            to.put(i + j, now.keys.ofNode[v]);
            v /= 2;
        }
        return FILM_ITEMS;
    }

    public int sheet(int sheet, int lane, int n) {
        if (noSheet(sheet) || noLane(lane) || n > SHEET_ROOM) return BAD;
        if (n < 0) return SIZE;
        sheets[sheet].renew(lane, n);
        return n;
    }

    public int drop(int sheet) {
        if (noSheet(sheet)) return BAD;
        Sheet dropped = sheets[sheet];
        if (dropped.lane == NO_LANE) return NULL;
        int size = dropped.size;
        dropped.renew(NO_LANE, 0);
        return size;
    }

    public int item(int sheet, int lane, int i, long v) {
        if (noSheet(sheet) || noLane(lane)) return BAD;
        Sheet changed = sheets[sheet];
        int refusal = changed.refusal(lane, i, 1);
        if (refusal != 0) return refusal;
        changed.put(i, v);
        return 1;
    }

    public int copy(int from, int i, int to, int j, int n) {
        if (noSheet(from) || noSheet(to)) return BAD;
        Sheet source = sheets[from];
        Sheet target = sheets[to];
        if (source.lane == NO_LANE || target.lane == NO_LANE) return NULL;
        if (source.lane != target.lane) return CAST;
        if (source.lacks(i, n) || target.lacks(j, n)) return INDEX;
        System.arraycopy(source.row, i, target.row, j, n);
        return n;
    }

    // ---- what the calls share

    private static boolean noMember(int m) {
        return m < 0 || m >= MEMBERS;
    }

    private static boolean noSheet(int sheet) {
        return sheet < 0 || sheet >= SHEETS;
    }

    private static boolean noLane(int lane) {
        return lane < 0 || lane >= LANES;
    }

    /** Bit b of a set, 0 or 1. */
    private static int bit(int set, int b) {
        return set >>> b & 1;
    }

    private static boolean has(int set, int b) {
        return bit(set, b) == 1;
    }

    /** The greatest number that divides both 10 and a number of 0 to 10. */
    private static int commonOfTen(int number) {
        for (int divisor = 10; divisor > 1; divisor--) {
            if (10 % divisor == 0 && number % divisor == 0) return divisor;
        }
        return 1;
    }

    /** The letters of all batches, were each of those leaving and coming a batch alone. */
    private int planSingles() {
        int sum = 0;
        for (int m = 0; m < MEMBERS; m++) {
            sum += plan.lettersFor(plan.move(now.leavers & 1 << m, 0));
        }
        for (int m = 0; m < MEMBERS; m++) {
            sum += plan.lettersFor(plan.move(0, now.comers & 1 << m));
        }
        return sum;
    }

    /** Does the tape's events up to the first that is refused: how many were done. */
    private int doEvents() {
        int done = 0;
        boolean coming = false;
        for (int i = 0; i < tape.size; i++) {
            char sign = tape.signs[i];
            if (sign == '+' || sign == '-') {
                coming = sign == '+';
            } else if (sign != ' ') {
                if (!doEvent(sign, coming)) return done;
                done++;
            }
        }
        return done;
    }

    /** The event that ends with this sign: whether it was done. */
    private boolean doEvent(char sign, boolean coming) {
        if (sign == '!') return now.tryBatch();
        int m = Tape.figure(sign);
        if (noMember(m)) return false;
        return coming ? now.tryCome(m) : now.tryLeave(m);
    }

    private void driftOnce() {
        now.draw = now.draw * 1103515245 + 12345 & DRAW_BITS;
        int x = now.draw >>> 16;
        int m = x / 16 % MEMBERS;
        switch (x % 8) {
            case 4:
            case 5:
                now.tryBatch();
                break;
            case 6:
                if (now.isAwake(m)) now.fallAsleep(m);
                else if (now.isAsleep(m)) now.wakeUp(m);
                break;
            case 7:
                if (now.mendRefusal(m) == 0) now.mendKeys(m);
                break;
            default:
                if (now.seats.sits(m)) now.tryLeave(m);
                else now.tryCome(m);
                break;
        }
    }

    /** Whether each of n items names a letter. */
    private boolean toldLetters(Sheet told, int i, int n) {
        for (int j = i; j < i + n; j++) {
            long item = told.row[j];
            if (item < 0 || item >= now.letters.written) return false;
        }
        return true;
    }

    /** Who sits where, and the tree of nodes that this makes live. */
    private static final class Seats {
        final int[] leafOf = new int[MEMBERS];
        /** The set of members that sit at or beneath each node. */
        final int[] sitters = new int[NODES];

        void take(Seats other) {
            System.arraycopy(other.leafOf, 0, leafOf, 0, MEMBERS);
            System.arraycopy(other.sitters, 0, sitters, 0, NODES);
        }

        void clear() {
            Arrays.fill(leafOf, NO_LEAF);
            Arrays.fill(sitters, 0);
        }

        int all() {
            return sitters[1];
        }

        boolean sits(int m) {
            return leafOf[m] != NO_LEAF;
        }

        boolean live(int v) {
            return sitters[v] != 0;
        }

        /** Leaving ones stand up, then coming ones sit: the set of changed nodes, live or not. */
        int move(int leavers, int comers) {
            int changed = 0;
            int freed = 0;
            for (int m = 0; m < MEMBERS; m++) {
                if (has(leavers, m)) {
                    int leaf = leafOf[m];
                    stand(m);
                    freed |= 1 << leaf;
                    changed |= pathFrom(leaf / 2);
                }
            }
            for (int m = 0; m < MEMBERS; m++) {
                if (has(comers, m)) {
                    int leaf = freed == 0 ? emptiestLeaf() : Integer.numberOfTrailingZeros(freed);
                    sit(m, leaf);
                    freed &= ~(1 << leaf);
                    changed |= pathFrom(leaf);
                }
            }
            return changed;
        }

        /** How many letters tell the new keys of the changed nodes. */
        int lettersFor(int changed) {
            int sum = 0;
            for (int v = 1; v < FIRST_LEAF; v++) {
                if (has(changed, v)) {
                    sum += (live(2 * v) ? 1 : 0) + (live(2 * v + 1) ? 1 : 0);
                }
            }
            return sum;
        }

        private void sit(int m, int leaf) {
            leafOf[m] = leaf;
            for (int v = leaf; v >= 1; v /= 2) {
                sitters[v] |= 1 << m;
            }
        }

        private void stand(int m) {
            for (int v = leafOf[m]; v >= 1; v /= 2) {
                sitters[v] &= ~(1 << m);
            }
            leafOf[m] = NO_LEAF;
        }

        /** The leaf to which one comes by always going where fewer sit. */
        private int emptiestLeaf() {
            int v = 1;
            while (v < FIRST_LEAF) {
                int least = 2 * v;
                int other = least + 1;
                v = Integer.bitCount(sitters[other]) < Integer.bitCount(sitters[least]) ? other : least;
            }
            return v;
        }

        /** The set of a node and all above it. */
        private static int pathFrom(int node) {
            int path = 0;
            for (int v = node; v >= 1; v /= 2) {
                path |= 1 << v;
            }
            return path;
        }
    }

    /** All keys that were made, and which one each node has. */
    private static final class Keys {
        int made;
        final int[] nodes = new int[KEY_ROOM];
        final int[] batches = new int[KEY_ROOM];
        final int[] holders = new int[KEY_ROOM];
        final int[] ofNode = new int[NODES];

        Keys() {
            Arrays.fill(ofNode, NONE);
        }

        void take(Keys other) {
            made = other.made;
            System.arraycopy(other.nodes, 0, nodes, 0, KEY_ROOM);
            System.arraycopy(other.batches, 0, batches, 0, KEY_ROOM);
            System.arraycopy(other.holders, 0, holders, 0, KEY_ROOM);
            System.arraycopy(other.ofNode, 0, ofNode, 0, NODES);
        }

        void clear() {
            made = 0;
            Arrays.fill(ofNode, NONE);
        }

        boolean known(int k) {
            return k >= 0 && k < made;
        }

        /** From the greatest node down, changed live ones get new keys, and those not live have none. */
        void renew(Seats seats, int changed, int batch) {
            for (int v = NODES - 1; v >= 1; v--) {
                if (!seats.live(v)) {
                    ofNode[v] = NONE;
                } else if (has(changed, v)) {
                    ofNode[v] = add(v, batch);
                }
            }
        }

        private int add(int v, int batch) {
            if (made >= KEY_ROOM) return NONE;
            nodes[made] = v;
            batches[made] = batch;
            holders[made] = 0;
            made++;
            return made - 1;
        }

        void give(int k, int m) {
            if (known(k)) holders[k] |= 1 << m;
        }

        int nodeOf(int k) {
            return known(k) ? nodes[k] : NONE;
        }

        int batchOf(int k) {
            return known(k) ? batches[k] : NEVER;
        }

        int holdersOf(int k) {
            return known(k) ? holders[k] : 0;
        }

        boolean held(int k, int m) {
            return has(holdersOf(k), m);
        }

        int heldBy(int m) {
            int sum = 0;
            for (int k = 0; k < made; k++) {
                sum += bit(holders[k], m);
            }
            return sum;
        }
    }

    /** All letters that were written: the key in each, and the key under which it is. */
    private static final class Letters {
        int written;
        final int[] inside = new int[LETTER_ROOM];
        final int[] under = new int[LETTER_ROOM];
        /** NONE for mended ones. */
        final int[] batches = new int[LETTER_ROOM];

        void take(Letters other) {
            written = other.written;
            System.arraycopy(other.inside, 0, inside, 0, LETTER_ROOM);
            System.arraycopy(other.under, 0, under, 0, LETTER_ROOM);
            System.arraycopy(other.batches, 0, batches, 0, LETTER_ROOM);
        }

        boolean known(int i) {
            return i >= 0 && i < written;
        }

        void add(int keyInside, int keyUnder, int batch) {
            if (written >= LETTER_ROOM) return;
            inside[written] = keyInside;
            under[written] = keyUnder;
            batches[written] = batch;
            written++;
        }
    }

    /** All that can be undone. */
    private static final class Book {
        final Seats seats = new Seats();
        final Keys keys = new Keys();
        final Letters letters = new Letters();
        int comers;
        int leavers;
        int sleepers;
        int batches;
        int draw = 1;
        /** The batch in which each member came, and left, the last time. */
        final int[] cameIn = new int[MEMBERS];
        final int[] leftIn = new int[MEMBERS];
        /** The first letter that each member that sits has neither read nor lost. */
        final int[] unreadFrom = new int[MEMBERS];

        Book() {
            Arrays.fill(cameIn, NEVER);
        }

        void take(Book other) {
            seats.take(other.seats);
            keys.take(other.keys);
            letters.take(other.letters);
            comers = other.comers;
            leavers = other.leavers;
            sleepers = other.sleepers;
            batches = other.batches;
            draw = other.draw;
            System.arraycopy(other.cameIn, 0, cameIn, 0, MEMBERS);
            System.arraycopy(other.leftIn, 0, leftIn, 0, MEMBERS);
            System.arraycopy(other.unreadFrom, 0, unreadFrom, 0, MEMBERS);
        }

        /** All but THE DRAW, which is no part of THE BOOK. */
        void beginAnew() {
            seats.clear();
            keys.clear();
            letters.written = 0;
            comers = 0;
            leavers = 0;
            sleepers = 0;
            batches = 0;
            Arrays.fill(cameIn, NEVER);
        }

        int groupKey() {
            return keys.ofNode[1];
        }

        int unread(int m) {
            return letters.written - unreadFrom[m];
        }

        boolean mayCome(int m) {
            return !seats.sits(m) && !has(comers, m);
        }

        boolean mayLeave(int m) {
            return seats.sits(m) && !has(leavers, m);
        }

        /** Whether a member sits and isn't late. */
        boolean isAwake(int m) {
            return seats.sits(m) && !has(sleepers, m);
        }

        boolean isAsleep(int m) {
            return has(sleepers, m);
        }

        int batchRefusal() {
            if (comers == 0 && leavers == 0) return NOT;
            return fullRefusal();
        }

        int mendRefusal(int m) {
            if (!isAwake(m) || holdsAllAbove(m)) return NOT;
            return fullRefusal();
        }

        private int fullRefusal() {
            return keys.made >= FULL_KEYS || letters.written >= FULL_LETTERS ? FULL : 0;
        }

        private boolean holdsAllAbove(int m) {
            for (int v = seats.leafOf[m] / 2; v >= 1; v /= 2) {
                if (!keys.held(keys.ofNode[v], m)) return false;
            }
            return true;
        }

        void addComer(int m) {
            comers |= 1 << m;
        }

        void addLeaver(int m) {
            leavers |= 1 << m;
        }

        boolean tryCome(int m) {
            if (!mayCome(m)) return false;
            addComer(m);
            return true;
        }

        boolean tryLeave(int m) {
            if (!mayLeave(m)) return false;
            addLeaver(m);
            return true;
        }

        boolean tryBatch() {
            if (batchRefusal() != 0) return false;
            changeAll();
            return true;
        }

        /** A batch: how many letters it made. */
        int changeAll() {
            int first = letters.written;
            int changed = seats.move(leavers, comers);
            keys.renew(seats, changed, batches);
            for (int m = 0; m < MEMBERS; m++) {
                if (has(comers, m)) {
                    cameIn[m] = batches;
                    unreadFrom[m] = first;
                    keys.give(keys.ofNode[seats.leafOf[m]], m);
                } else if (has(leavers, m)) {
                    leftIn[m] = batches;
                }
            }
            tellChanged(changed);
            sleepers &= ~(comers | leavers);
            comers = 0;
            leavers = 0;
            batches++;
            readByAll();
            return letters.written - first;
        }

        /** Letters from below upwards, for each changed live node to those beneath it. */
        private void tellChanged(int changed) {
            for (int v = FIRST_LEAF - 1; v >= 1; v--) {
                if (has(changed, v)) {
                    tell(v, 2 * v);
                    tell(v, 2 * v + 1);
                }
            }
        }

        private void tell(int v, int beneath) {
            if (seats.live(beneath)) {
                letters.add(keys.ofNode[v], keys.ofNode[beneath], batches);
            }
        }

        private void readByAll() {
            for (int m = 0; m < MEMBERS; m++) {
                if (isAwake(m)) readUnread(m);
            }
        }

        /** A member reads what it hasn't: how many letters gave it a key that it didn't hold. */
        private int readUnread(int m) {
            int opened = 0;
            for (int i = unreadFrom[m]; i < letters.written; i++) {
                int inside = letters.inside[i];
                if (keys.held(letters.under[i], m) && !keys.held(inside, m)) {
                    keys.give(inside, m);
                    opened++;
                }
            }
            unreadFrom[m] = letters.written;
            return opened;
        }

        int fallAsleep(int m) {
            sleepers |= 1 << m;
            return 0;
        }

        int wakeUp(int m) {
            sleepers &= ~(1 << m);
            return readUnread(m);
        }

        int loseLetters(int m, int n) {
            int lost = Math.min(n, unread(m));
            unreadFrom[m] += lost;
            return lost;
        }

        int mendKeys(int m) {
            int first = letters.written;
            int leaf = seats.leafOf[m];
            for (int v = leaf / 2; v >= 1; v /= 2) {
                int lacking = keys.ofNode[v];
                if (!keys.held(lacking, m)) letters.add(lacking, keys.ofNode[leaf], NONE);
            }
            readByAll();
            return letters.written - first;
        }

        /** Why a letter under key k is shut to a member. */
        int whyShut(int m, int k) {
            if (keys.held(k, m)) return 0;
            if (cameIn[m] == NEVER) return 1;
            if (keys.batchOf(k) < cameIn[m]) return 2;
            if (!seats.sits(m) && keys.batchOf(k) >= leftIn[m]) return 3;
            return 4;
        }

        /** How many letters of the last batch are for a member's leaf, or a node above it, 1 not. */
        int lettersNeeded(int m) {
            int needed = 0;
            for (int i = 0; i < letters.written; i++) {
                int v = keys.nodeOf(letters.under[i]);
                if (letters.batches[i] == batches - 1 && v > 1 && has(seats.sitters[v], m)) needed++;
            }
            return needed;
        }
    }

    /** The books as they were ahead of the latest doings; older ones are written over. */
    private static final class Past {
        final Book[] books = new Book[UNDOES];
        int known;
        /** Where the next book goes. */
        int next;

        Past() {
            for (int b = 0; b < UNDOES; b++) {
                books[b] = new Book();
            }
        }

        void take(Past other) {
            known = other.known;
            next = other.next;
            for (int b = 0; b < UNDOES; b++) {
                books[b].take(other.books[b]);
            }
        }

        void keep(Book book) {
            books[next].take(book);
            next = (next + 1) % UNDOES;
            known = Math.min(known + 1, UNDOES);
        }

        void goBack(Book book) {
            next = (next + UNDOES - 1) % UNDOES;
            known--;
            book.take(books[next]);
        }
    }

    /** Keys thought to be opened; the book itself stays as it is. */
    private static final class Ring {
        private final boolean[] opened = new boolean[KEY_ROOM];
        private int size;

        /** Starts with the keys that any member of a set holds. */
        void take(Keys keys, int set) {
            size = keys.made;
            for (int k = 0; k < size; k++) {
                opened[k] = (keys.holders[k] & set) != 0;
            }
        }

        boolean has(int k) {
            return k >= 0 && k < size && opened[k];
        }

        private boolean lacks(int k) {
            return k >= 0 && k < size && !opened[k];
        }

        /** Opens letter i, if that goes: whether a key was new by it. */
        boolean open(Letters letters, int i) {
            int inside = letters.inside[i];
            boolean fits = has(letters.under[i]) && lacks(inside);
            if (fits) opened[inside] = true;
            return fits;
        }

        /** Until nothing more opens, so that nothing leans on the letters' order. */
        void openAll(Letters letters) {
            boolean more = true;
            for (int round = 0; more && round < KEY_ROOM; round++) {
                more = false;
                for (int i = 0; i < letters.written; i++) {
                    more |= open(letters, i);
                }
            }
        }
    }

    /** THE TAPE, which may tell a text. */
    private static final class Tape {
        final char[] signs = new char[TAPE_ROOM];
        int size;

        void add(char sign) {
            if (size >= TAPE_ROOM) return;
            signs[size] = sign;
            size++;
        }

        /** The place of the first sign that can't stand where it does, or NO_FAULT. */
        int fault() {
            boolean anyEvent = false;
            boolean wantsMember = false;
            for (int i = 0; i < size; i++) {
                char sign = signs[i];
                if (sign == ' ') continue;
                if (wantsMember ? figure(sign) < 0 : !startsEvent(sign)) return i;
                wantsMember = !wantsMember && sign != '!';
                anyEvent |= !wantsMember;
            }
            return wantsMember || !anyEvent ? size : NO_FAULT;
        }

        private static boolean startsEvent(char sign) {
            return sign == '+' || sign == '-' || sign == '!';
        }

        /** The member that a sign tells, or NEVER. */
        static int figure(char sign) {
            if (sign >= '0' && sign <= '9') return sign - '0';
            if (sign >= 'a' && sign <= 'f') return sign - 'a' + 10;
            return NEVER;
        }
    }

    /** A sheet: nothing, or a row of a lane, whose items are kept as longs already cut to the lane. */
    private static final class Sheet {
        final long[] row = new long[SHEET_ROOM];
        int lane = NO_LANE;
        int size;

        void renew(int newLane, int newSize) {
            lane = newLane;
            size = newSize;
            Arrays.fill(row, 0L);
        }

        /** Why n items from i on can't be taken as a row of a lane, or 0. */
        int refusal(int asLane, int i, int n) {
            if (lane == NO_LANE) return NULL;
            if (lane != asLane) return CAST;
            return lacks(i, n) ? INDEX : 0;
        }

        boolean lacks(int i, int n) {
            return i < 0 || n < 0 || n > size - i;
        }

        void put(int i, long v) {
            switch (lane) {
                case 0:
                    row[i] = (byte) v;
                    break;
                case 1:
                    row[i] = (short) v;
                    break;
                case 2:
                    row[i] = (int) v;
                    break;
                default:
                    row[i] = v;
                    break;
            }
        }
    }
}
