import java.util.ArrayList;
import java.util.HashMap;
import java.util.List;
import java.util.Map;
import java.util.TreeMap;
import java.util.TreeSet;

/**
 * The document once more, written with sets and maps and without thought for room, so that runs of calls
 * can be told twice and compared. What it keeps is another thing than what the class keeps: letters read
 * or lost are a set for each member, what may be undone is a list of whole copies.
 */
final class Model {
    private static final int BAD = -1;
    private static final int NOT = -2;
    private static final int FULL = -3;
    private static final int NONE = -4;
    private static final int NULL = -11;
    private static final int CAST = -12;
    private static final int INDEX = -13;
    private static final int SIZE = -14;

    private record Key(int node, int batch) {
    }

    private record Letter(int inside, int under, int batch) {
    }

    /** All that is undone. */
    private static final class State {
        Map<Integer, Integer> leaf = new TreeMap<>();
        TreeSet<Integer> coming = new TreeSet<>();
        TreeSet<Integer> leaving = new TreeSet<>();
        TreeSet<Integer> late = new TreeSet<>();
        List<Key> keys = new ArrayList<>();
        List<Letter> letters = new ArrayList<>();
        Map<Integer, Integer> keyOf = new HashMap<>();
        Map<Integer, TreeSet<Integer>> held = new HashMap<>();
        Map<Integer, TreeSet<Integer>> dealt = new HashMap<>();
        Map<Integer, Integer> came = new HashMap<>();
        Map<Integer, Integer> left = new HashMap<>();
        int batches = 0;
        long draw = 1;

        State() {
            for (int m = 0; m < 16; m++) {
                held.put(m, new TreeSet<>());
                dealt.put(m, new TreeSet<>());
            }
        }

        State copy() {
            State c = new State();
            c.leaf.putAll(leaf);
            c.coming.addAll(coming);
            c.leaving.addAll(leaving);
            c.late.addAll(late);
            c.keys.addAll(keys);
            c.letters.addAll(letters);
            c.keyOf.putAll(keyOf);
            for (int m = 0; m < 16; m++) {
                c.held.get(m).addAll(held.get(m));
                c.dealt.get(m).addAll(dealt.get(m));
            }
            c.came.putAll(came);
            c.left.putAll(left);
            c.batches = batches;
            c.draw = draw;
            return c;
        }
    }

    private State s = new State();
    private List<State> past = new ArrayList<>();
    private State imageState;
    private List<State> imagePast;
    private final StringBuilder tape = new StringBuilder();
    private final Object[] sheets = new Object[4];

    // ---- the tree

    private static boolean beneath(int node, int v) {
        for (int u = node; u > 0; u >>= 1) {
            if (u == v) return true;
        }
        return false;
    }

    private static TreeSet<Integer> sittingAt(State t, int v) {
        TreeSet<Integer> at = new TreeSet<>();
        for (Map.Entry<Integer, Integer> seat : t.leaf.entrySet()) {
            if (beneath(seat.getValue(), v)) at.add(seat.getKey());
        }
        return at;
    }

    private static boolean live(State t, int v) {
        return !sittingAt(t, v).isEmpty();
    }

    private static int asSet(Iterable<Integer> members) {
        int set = 0;
        for (int m : members) set |= 1 << m;
        return set;
    }

    /** A batch of a state: how many letters it made. */
    private static int change(State t) {
        TreeSet<Integer> free = new TreeSet<>();
        TreeSet<Integer> changed = new TreeSet<>();
        for (int m : t.leaving) {
            int leaf = t.leaf.remove(m);
            free.add(leaf);
            for (int v = leaf / 2; v > 0; v /= 2) changed.add(v);
            t.left.put(m, t.batches);
        }
        for (int m : t.coming) {
            Integer leaf = free.pollFirst();
            if (leaf == null) {
                int v = 1;
                while (v < 16) v = sittingAt(t, 2 * v).size() > sittingAt(t, 2 * v + 1).size() ? 2 * v + 1 : 2 * v;
                leaf = v;
            }
            t.leaf.put(m, leaf);
            for (int v = leaf; v > 0; v /= 2) changed.add(v);
            t.came.put(m, t.batches);
        }
        for (int v = 31; v > 0; v--) {
            if (!live(t, v)) t.keyOf.remove(v);
        }
        changed.removeIf(v -> !live(t, v));
        for (int v : changed.descendingSet()) {
            t.keyOf.put(v, t.keys.size());
            t.keys.add(new Key(v, t.batches));
        }
        int first = t.letters.size();
        for (int v : changed.descendingSet().tailSet(15)) {
            for (int under = 2 * v; under <= 2 * v + 1; under++) {
                if (live(t, under)) t.letters.add(new Letter(t.keyOf.get(v), t.keyOf.get(under), t.batches));
            }
        }
        for (int m : t.coming) {
            t.held.get(m).add(t.keyOf.get(t.leaf.get(m)));
            t.dealt.get(m).clear();
            for (int i = 0; i < first; i++) t.dealt.get(m).add(i);
        }
        t.late.removeAll(t.coming);
        t.late.removeAll(t.leaving);
        t.coming.clear();
        t.leaving.clear();
        t.batches++;
        readByAwake(t);
        return t.letters.size() - first;
    }

    private static void readByAwake(State t) {
        for (int m : t.leaf.keySet()) {
            if (!t.late.contains(m)) readBy(t, m);
        }
    }

    private static int readBy(State t, int m) {
        int opened = 0;
        for (int i = 0; i < t.letters.size(); i++) {
            if (!t.dealt.get(m).add(i)) continue;
            Letter letter = t.letters.get(i);
            if (t.held.get(m).contains(letter.under()) && t.held.get(m).add(letter.inside())) opened++;
        }
        return opened;
    }

    // ---- what may be done: an answer, with the change made, or a refusal with nothing changed

    private static int comes(State t, int m) {
        if (t.leaf.containsKey(m) || !t.coming.add(m)) return NOT;
        return t.coming.size();
    }

    private static int leaves(State t, int m) {
        if (!t.leaf.containsKey(m) || !t.leaving.add(m)) return NOT;
        return t.leaving.size();
    }

    private static boolean full(State t) {
        return t.keys.size() >= 200 || t.letters.size() >= 160;
    }

    private static int batches(State t) {
        if (t.coming.isEmpty() && t.leaving.isEmpty()) return NOT;
        return full(t) ? FULL : change(t);
    }

    private static int sleeps(State t, int m) {
        return t.leaf.containsKey(m) && t.late.add(m) ? 0 : NOT;
    }

    private static int wakes(State t, int m) {
        if (!t.leaf.containsKey(m) || !t.late.remove(m)) return NOT;
        return readBy(t, m);
    }

    private static int loses(State t, int m, int n) {
        if (!t.late.contains(m)) return NOT;
        int lost = 0;
        for (int i = 0; i < t.letters.size() && lost < n; i++) {
            if (t.dealt.get(m).add(i)) lost++;
        }
        return lost;
    }

    private static int mends(State t, int m) {
        if (!t.leaf.containsKey(m) || t.late.contains(m)) return NOT;
        List<Integer> lacking = new ArrayList<>();
        for (int v = t.leaf.get(m) / 2; v > 0; v /= 2) {
            if (!t.held.get(m).contains(t.keyOf.get(v))) lacking.add(t.keyOf.get(v));
        }
        if (lacking.isEmpty()) return NOT;
        if (full(t)) return FULL;
        for (int k : lacking) t.letters.add(new Letter(k, t.keyOf.get(t.leaf.get(m)), NONE));
        readByAwake(t);
        return lacking.size();
    }

    private static int begins(State t) {
        if (t.keys.isEmpty() && t.coming.isEmpty()) return NOT;
        return t.keys.size();
    }

    /** Does one of them on a copy; it is a doing, if it isn't refused. */
    private interface Doing {
        int in(State t);
    }

    private int done(Doing doing) {
        State then = s.copy();
        int answer = doing.in(then);
        if (answer < 0) return answer;
        know();
        s = then;
        return answer;
    }

    private void know() {
        past.add(s.copy());
        if (past.size() > 6) past.remove(0);
    }

    // ---- the face

    private static boolean out(int number, int least, int most) {
        return number < least || number > most;
    }

    int come(int m) {
        return out(m, 0, 15) ? BAD : done(t -> comes(t, m));
    }

    int leave(int m) {
        return out(m, 0, 15) ? BAD : done(t -> leaves(t, m));
    }

    int batch() {
        return done(Model::batches);
    }

    int late(int m, int v) {
        return out(m, 0, 15) || out(v, 0, 1) ? BAD : done(t -> v == 1 ? sleeps(t, m) : wakes(t, m));
    }

    int lose(int m, int n) {
        return out(m, 0, 15) || out(n, 1, 40) ? BAD : done(t -> loses(t, m, n));
    }

    int mend(int m) {
        return out(m, 0, 15) ? BAD : done(t -> mends(t, m));
    }

    int begin() {
        int answer = done(Model::begins);
        if (answer < 0) return answer;
        long draw = s.draw;
        s = new State();
        s.draw = draw;
        return answer;
    }

    private Integer groupKey() {
        return s.keyOf.get(1);
    }

    private TreeSet<Integer> holders(int k) {
        TreeSet<Integer> all = new TreeSet<>();
        for (int m = 0; m < 16; m++) {
            if (s.held.get(m).contains(k)) all.add(m);
        }
        return all;
    }

    int member(int m, int what) {
        if (out(m, 0, 15) || out(what, 0, 5)) return BAD;
        if (what == 0) return s.leaf.getOrDefault(m, NONE);
        if (what == 1) return s.held.get(m).size();
        if (what == 2) return groupKey() == null ? NONE : s.held.get(m).contains(groupKey()) ? 1 : 0;
        if (what == 3) return s.late.contains(m) ? 1 : 0;
        if (what == 4) return s.leaf.containsKey(m) ? s.letters.size() - s.dealt.get(m).size() : NONE;
        return s.coming.contains(m) ? 1 : s.leaving.contains(m) ? 2 : 0;
    }

    int node(int v, int what) {
        if (out(v, 1, 31) || out(what, 0, 2)) return BAD;
        if (what == 1) return asSet(sittingAt(s, v));
        if (!s.keyOf.containsKey(v)) return NONE;
        return what == 0 ? s.keyOf.get(v) : asSet(holders(s.keyOf.get(v)));
    }

    int key(int k, int what) {
        if (out(k, 0, s.keys.size() - 1) || out(what, 0, 3)) return BAD;
        Key key = s.keys.get(k);
        if (what == 0) return key.node();
        if (what == 1) return key.batch();
        if (what == 2) return s.keyOf.getOrDefault(key.node(), NONE) == k ? 1 : 0;
        return asSet(holders(k));
    }

    int letter(int i, int what) {
        if (out(i, 0, s.letters.size() - 1) || out(what, 0, 2)) return BAD;
        Letter letter = s.letters.get(i);
        return what == 0 ? letter.inside() : what == 1 ? letter.under() : letter.batch();
    }

    int count(int what) {
        if (out(what, 0, 8)) return BAD;
        TreeSet<Integer> without = new TreeSet<>(s.leaf.keySet());
        without.removeIf(m -> s.held.get(m).contains(groupKey()));
        int[] all = {asSet(s.leaf.keySet()), asSet(s.coming), asSet(s.leaving), asSet(s.late), s.keys.size(),
            s.letters.size(), s.batches, asSet(without), past.size()};
        return all[what];
    }

    int why(int m, int i) {
        if (out(m, 0, 15) || out(i, 0, s.letters.size() - 1)) return BAD;
        int under = s.letters.get(i).under();
        if (s.held.get(m).contains(under)) return 0;
        if (!s.came.containsKey(m)) return 1;
        int made = s.keys.get(under).batch();
        if (made < s.came.get(m)) return 2;
        if (!s.leaf.containsKey(m) && made >= s.left.get(m)) return 3;
        return 4;
    }

    int opens(int set, int k) {
        if (out(set, 0, 65535) || out(k, 0, s.keys.size() - 1)) return BAD;
        TreeSet<Integer> opened = new TreeSet<>();
        for (int m = 0; m < 16; m++) {
            if ((set & 1 << m) != 0) opened.addAll(s.held.get(m));
        }
        boolean more = true;
        while (more) {
            more = false;
            for (Letter letter : s.letters) {
                if (opened.contains(letter.under()) && opened.add(letter.inside())) more = true;
            }
        }
        return opened.contains(k) ? 1 : 0;
    }

    int due(int what) {
        if (out(what, 0, 1)) return BAD;
        State t = s.copy();
        if (what == 0) return change(t);
        int sum = 0;
        List<Integer> goers = new ArrayList<>(t.leaving);
        List<Integer> comers = new ArrayList<>(t.coming);
        t.leaving.clear();
        t.coming.clear();
        for (int m : goers) {
            t.leaving.add(m);
            sum += change(t);
        }
        for (int m : comers) {
            t.coming.add(m);
            sum += change(t);
        }
        return sum;
    }

    int luck(int m, int c, int what) {
        if (out(m, 0, 15) || out(c, 0, 10) || out(what, 0, 1)) return BAD;
        if (!s.leaf.containsKey(m)) return NOT;
        long above = 1;
        long below = 1;
        for (Letter letter : s.letters) {
            int v = s.keys.get(letter.under()).node();
            if (letter.batch() != s.batches - 1 || v == 1 || !beneath(s.leaf.get(m), v)) continue;
            above *= 10 - c;
            below *= 10;
        }
        for (long d = below; d > 1; d--) {
            if (above % d == 0 && below % d == 0) {
                above /= d;
                below /= d;
            }
        }
        return (int) (what == 0 ? above : below);
    }

    int type(int letter) {
        if (out(letter, 32, 126)) return BAD;
        if (tape.length() == 90) return FULL;
        return tape.append((char) letter).length();
    }

    int read() {
        String text = tape.toString();
        tape.setLength(0);
        List<String> events = new ArrayList<>();
        int at = 0;
        while (true) {
            at = skip(text, at);
            if (at == text.length()) break;
            char sign = text.charAt(at);
            if ("+-!".indexOf(sign) < 0) return -20 - at;
            at++;
            String event = "" + sign;
            if (sign != '!') {
                at = skip(text, at);
                if (at == text.length() || "0123456789abcdef".indexOf(text.charAt(at)) < 0) return -20 - at;
                event += text.charAt(at++);
            }
            events.add(event);
        }
        if (events.isEmpty()) return -20 - at;
        know();
        int count = 0;
        for (String event : events) {
            int m = event.length() == 2 ? Integer.parseInt(event.substring(1), 16) : 0;
            int answer = event.equals("!") ? batches(s) : event.charAt(0) == '+' ? comes(s, m) : leaves(s, m);
            if (answer < 0) break;
            count++;
        }
        return count;
    }

    private static int skip(String text, int from) {
        int at = from;
        while (at < text.length() && text.charAt(at) == ' ') at++;
        return at;
    }

    int drift(int n) {
        if (out(n, 1, 40)) return BAD;
        for (int turn = 0; turn < n; turn++) {
            know();
            s.draw = (s.draw * 1103515245L + 12345L) % (1L << 31);
            long x = s.draw / 65536;
            int m = (int) (x / 16 % 16);
            int kind = (int) (x % 8);
            if (kind <= 3 && s.leaf.containsKey(m)) leaves(s, m);
            else if (kind <= 3) comes(s, m);
            else if (kind <= 5) batches(s);
            else if (kind == 7) mends(s, m);
            else if (sleeps(s, m) < 0) wakes(s, m);
        }
        return asSet(s.leaf.keySet());
    }

    int undo() {
        if (past.isEmpty()) return NONE;
        s = past.remove(past.size() - 1);
        return past.size();
    }

    int seed(int v) {
        if (v < 0) return BAD;
        int was = (int) s.draw;
        s.draw = v;
        return was;
    }

    private static List<State> copies(List<State> all) {
        List<State> made = new ArrayList<>();
        for (State one : all) made.add(one.copy());
        return made;
    }

    int image() {
        imageState = s.copy();
        imagePast = copies(past);
        return 1;
    }

    int restore() {
        if (imageState == null) return NONE;
        s = imageState.copy();
        past = copies(imagePast);
        return 1;
    }

    // ---- sheets, here real rows of their lanes

    private static int lane(Object row) {
        return row instanceof byte[] ? 0 : row instanceof short[] ? 1 : row instanceof int[] ? 2 : 3;
    }

    private static int length(Object row) {
        return java.lang.reflect.Array.getLength(row);
    }

    private static void put(Object row, int i, long v) {
        if (row instanceof byte[] bytes) bytes[i] = (byte) v;
        else if (row instanceof short[] shorts) shorts[i] = (short) v;
        else if (row instanceof int[] ints) ints[i] = (int) v;
        else ((long[]) row)[i] = v;
    }

    private int refused(int sheet, int lane, long i, long n) {
        if (sheets[sheet] == null) return NULL;
        if (lane(sheets[sheet]) != lane) return CAST;
        return i < 0 || i + n > length(sheets[sheet]) ? INDEX : 0;
    }

    int got(int m, int sheet, int lane, int i, int n) {
        if (out(m, 0, 15) || out(sheet, 0, 3) || out(lane, 0, 3) || out(n, 1, 24)) return BAD;
        int refused = refused(sheet, lane, i, n);
        if (refused != 0) return refused;
        TreeSet<Integer> would = new TreeSet<>(s.held.get(m));
        for (int j = i; j < i + n; j++) {
            long item = java.lang.reflect.Array.getLong(sheets[sheet], j);
            if (item < 0 || item >= s.letters.size()) return NOT;
            Letter letter = s.letters.get((int) item);
            if (would.contains(letter.under())) would.add(letter.inside());
        }
        return groupKey() == null ? NONE : would.contains(groupKey()) ? 1 : 0;
    }

    int film(int leaf, int sheet, int lane, int i) {
        if (out(leaf, 16, 31) || out(sheet, 0, 3) || out(lane, 0, 3)) return BAD;
        int refused = refused(sheet, lane, i, 5);
        if (refused != 0) return refused;
        for (int j = 0; j < 5; j++) put(sheets[sheet], i + j, s.keyOf.getOrDefault(leaf >> j, NONE));
        return 5;
    }

    int sheet(int sheet, int lane, int n) {
        if (out(sheet, 0, 3) || out(lane, 0, 3) || n > 24) return BAD;
        if (n < 0) return SIZE;
        sheets[sheet] = lane == 0 ? new byte[n] : lane == 1 ? new short[n] : lane == 2 ? new int[n] : new long[n];
        return n;
    }

    int drop(int sheet) {
        if (out(sheet, 0, 3)) return BAD;
        if (sheets[sheet] == null) return NULL;
        int size = length(sheets[sheet]);
        sheets[sheet] = null;
        return size;
    }

    int item(int sheet, int lane, int i, long v) {
        if (out(sheet, 0, 3) || out(lane, 0, 3)) return BAD;
        int refused = refused(sheet, lane, i, 1);
        if (refused != 0) return refused;
        put(sheets[sheet], i, v);
        return 1;
    }

    int copy(int from, int i, int to, int j, int n) {
        if (out(from, 0, 3) || out(to, 0, 3)) return BAD;
        if (sheets[from] == null || sheets[to] == null) return NULL;
        int lane = lane(sheets[from]);
        if (lane != lane(sheets[to])) return CAST;
        if (n < 0 || refused(from, lane, i, n) != 0 || refused(to, lane, j, n) != 0) return INDEX;
        long[] taken = new long[n];
        for (int k = 0; k < n; k++) taken[k] = java.lang.reflect.Array.getLong(sheets[from], i + k);
        for (int k = 0; k < n; k++) put(sheets[to], j + k, taken[k]);
        return n;
    }
}
