import java.util.TreeMap;

/** Long runs of drawn calls, told to the class and to the model: each answer is compared. */
public final class ModelTest {
    private static final Due DUE = new Due("ModelTest");
    private static final int RUNS = 1500;
    private static final int CALLS = 512;

    /** How often each answer below 0 came for each call: every one that is told must come. */
    private static final TreeMap<String, Integer> SEEN = new TreeMap<>();

    private final KeyTrees x = new KeyTrees();
    private final Model model = new Model();
    private final int run;
    /** What a run does mostly: 0 anything, 1 batches, 2 late ones, 3 texts, 4 sheets, 5 drifts and what is undone. */
    private final int mood;
    /** Calls so far; a few more, up to the limit, may come with the last one. */
    private int told = 0;
    private long state;

    private ModelTest(int run) {
        this.run = run;
        this.mood = run % 6;
        this.state = run * 7919L + 17;
    }

    public static void main(String[] args) {
        for (int run = 0; run < RUNS && DUE.wrong() == 0; run++) {
            ModelTest test = new ModelTest(run);
            for (int call = 0; test.told < CALLS - 60 && DUE.wrong() == 0; call++) test.oneCall(call);
        }
        String[] due = {"come -1", "come -2", "leave -1", "leave -2", "batch -2", "batch -3", "late -1", "late -2",
            "lose -1", "lose -2", "mend -1", "mend -2", "mend -3", "begin -2", "member -1", "member -4", "node -1",
            "node -4", "key -1", "letter -1", "letter -4", "count -1", "why -1", "opens -1", "due -1", "luck -1",
            "luck -2", "type -1", "type -3", "drift -1", "undo -4", "seed -1", "restore -4", "got -1", "got -2",
            "got -4", "got -11", "got -12", "got -13", "film -1", "film -11", "film -12", "film -13", "sheet -1",
            "sheet -14", "drop -1", "drop -11", "item -1", "item -11", "item -12", "item -13", "copy -1", "copy -11",
            "copy -12", "copy -13", "why 0", "why 1", "why 2", "why 3", "why 4", "opens 0", "opens 1", "got 0",
            "got 1", "mend 1", "mend 2", "mend 3", "mend 4", "lose 0"};
        for (String one : due) DUE.isTrue(one + " was seen", SEEN.containsKey(one));
        DUE.end();
    }

    private int draw(int bound) {
        state = state * 6364136223846793005L + 1442695040888963407L;
        return (int) ((state >>> 33) % bound);
    }

    /** A number of least to most, or now and then one beside that. */
    private int about(int least, int most) {
        int odd = draw(60);
        if (odd == 0) return least - 1;
        if (odd == 1) return most + 1;
        if (odd == 2 && draw(8) == 0) return draw(2) == 0 ? Integer.MIN_VALUE : Integer.MAX_VALUE;
        return least + draw(Math.max(1, most - least + 1));
    }

    private void is(int call, String name, long got, long want, int... arguments) {
        told++;
        if (want >= -14 && want <= 4) SEEN.merge(name + " " + want, 1, Integer::sum);
        String where = "run " + run + ", call " + call + ": " + name;
        DUE.is(got == want ? name : where + java.util.Arrays.toString(arguments), got, want);
    }

    private void oneCall(int call) {
        int[][] moods = {{1, 1, 1, 1, 1, 1}, {8, 1, 1, 0, 0, 1}, {3, 8, 2, 0, 1, 1}, {1, 1, 1, 9, 0, 1},
            {2, 1, 1, 0, 9, 0}, {1, 1, 1, 1, 0, 6}};
        int[] weights = moods[mood];
        int sum = 5;
        for (int weight : weights) sum += weight;
        int which = draw(sum);
        int kind = 0;
        while (kind < 6 && which >= weights[kind]) {
            which -= weights[kind];
            kind++;
        }
        switch (kind) {
            case 0: changing(call); break;
            case 1: sleeping(call); break;
            case 2: opened(call); break;
            case 3: text(call); break;
            case 4: sheets(call); break;
            case 5: undone(call); break;
            default: asked(call); break;
        }
    }

    private int keys() {
        return model.count(4);
    }

    private int letters() {
        return model.count(5);
    }

    private void changing(int call) {
        int m = about(0, 15);
        switch (draw(8)) {
            case 0: case 1: case 2: is(call, "come", x.come(m), model.come(m), m); break;
            case 3: case 4: is(call, "leave", x.leave(m), model.leave(m), m); break;
            case 5:
                if (draw(30) == 0) is(call, "begin", x.begin(), model.begin());
                else if (draw(15) == 0) allLeave(call);
                else oneAlone(call, m);
                break;
            default: is(call, "batch", x.batch(), model.batch()); break;
        }
    }

    private void allLeave(int call) {
        for (int m = 0; m < 16; m++) is(call, "leave", x.leave(m), model.leave(m), m);
        is(call, "batch", x.batch(), model.batch());
    }

    private void oneAlone(int call, int m) {
        is(call, "come", x.come(m), model.come(m), m);
        is(call, "leave", x.leave(m), model.leave(m), m);
        is(call, "batch", x.batch(), model.batch());
    }

    /** Mostly a member of a set, if it has any. */
    private int oneOf(int set) {
        if (set == 0 || draw(6) == 0) return about(0, 15);
        int m = draw(16);
        while ((set >> m & 1) == 0) m = (m + 1) % 16;
        return m;
    }

    private void sleeping(int call) {
        int m = oneOf(draw(2) == 0 ? model.count(3) : model.count(7) != 0 ? model.count(7) : model.count(0));
        int v = about(0, 1);
        int n = draw(2) == 0 ? about(1, 40) : about(1, 8);
        switch (draw(6)) {
            case 0: case 1: case 2: is(call, "late", x.late(m, v), model.late(m, v), m, v); break;
            case 3: is(call, "lose", x.lose(m, n), model.lose(m, n), m, n); break;
            default: is(call, "mend", x.mend(m), model.mend(m), m); break;
        }
    }

    private void opened(int call) {
        int m = about(0, 15);
        int what = about(0, 1);
        int i = about(0, letters() - 1);
        int k = about(0, keys() - 1);
        int set = draw(2) == 0 ? about(0, 65535) : 1 << draw(16);
        int c = about(0, 10);
        switch (draw(5)) {
            case 0: is(call, "why", x.why(m, i), model.why(m, i), m, i); break;
            case 1: is(call, "opens", x.opens(set, k), model.opens(set, k), set, k); break;
            case 2: is(call, "due", x.due(what), model.due(what), what); break;
            case 3: is(call, "luck", x.luck(m, c, what), model.luck(m, c, what), m, c, what); break;
            default: is(call, "count", x.count(7), model.count(7), 7); break;
        }
    }

    private void text(int call) {
        if (draw(22) == 0) {
            is(call, "read", x.read(), model.read());
            return;
        }
        int sign;
        switch (draw(12)) {
            case 0: case 1: case 2: sign = draw(3) == 0 ? '-' : '+'; break;
            case 3: case 4: case 5: sign = "0123456789abcdef".charAt(draw(16)); break;
            case 6: sign = '!'; break;
            case 7: sign = ' '; break;
            case 8: sign = draw(25) == 0 ? about(32, 126) : ' '; break;
            default: event(call); return;
        }
        is(call, "type", x.type(sign), model.type(sign), sign);
    }

    /** A whole event, so that texts without a fault come about. */
    private void event(int call) {
        String event = draw(5) == 0 ? "!" : (draw(3) == 0 ? "-" : "+") + "0123456789abcdef".charAt(draw(16));
        for (int i = 0; i < event.length(); i++) {
            int sign = event.charAt(i);
            is(call, "type", x.type(sign), model.type(sign), sign);
        }
        if (draw(6) == 0) is(call, "read", x.read(), model.read());
    }

    private void sheets(int call) {
        int m = about(0, 15);
        int sheet = about(0, 3);
        int other = about(0, 3);
        int lane = draw(9) == 0 ? about(0, 3) : run / 6 % 4;
        int i = about(0, draw(2) == 0 ? 23 : 3);
        int j = about(0, draw(2) == 0 ? 23 : 3);
        int n = draw(3) == 0 ? about(0, 24) : 1 + draw(4);
        int leaf = about(16, 31);
        int letters = letters();
        int v = draw(12) == 0 ? about(-400, 70000) : Math.max(0, letters - 1 - draw(12));
        switch (draw(8)) {
            case 0:
                is(call, "film", x.film(leaf, sheet, lane, i), model.film(leaf, sheet, lane, i), leaf, sheet, lane, i);
                break;
            case 1: n = about(draw(3) == 0 ? 0 : 12, 24);
                is(call, "sheet", x.sheet(sheet, lane, n), model.sheet(sheet, lane, n), sheet, lane, n); break;
            case 2: if (draw(4) == 0) is(call, "drop", x.drop(sheet), model.drop(sheet), sheet); break;
            case 3:
                is(call, "copy", x.copy(sheet, i, other, j, n), model.copy(sheet, i, other, j, n), sheet, i, other,
                    j, n);
                break;
            case 4: case 5:
                is(call, "item", x.item(sheet, lane, i, v), model.item(sheet, lane, i, v), sheet, lane, i, v);
                break;
            default:
                is(call, "got", x.got(m, sheet, lane, i, n), model.got(m, sheet, lane, i, n), m, sheet, lane, i, n);
                break;
        }
    }

    private void undone(int call) {
        int n = draw(2) == 0 ? about(1, 40) : about(1, 5);
        int v = draw(20) == 0 ? -1 : draw(Integer.MAX_VALUE);
        switch (draw(8)) {
            case 0: case 1: is(call, "drift", x.drift(n), model.drift(n), n); break;
            case 2: is(call, "seed", x.seed(v), model.seed(v), v); break;
            case 3: if (draw(3) == 0) is(call, "image", x.image(), model.image()); break;
            case 4: if (draw(3) == 0) is(call, "restore", x.restore(), model.restore()); break;
            default: is(call, "undo", x.undo(), model.undo()); break;
        }
    }

    private void asked(int call) {
        int what = about(0, 5);
        int m = about(0, 15);
        int v = about(1, 31);
        int k = about(0, keys() - 1);
        int i = about(0, letters() - 1);
        switch (draw(5)) {
            case 0: is(call, "member", x.member(m, what), model.member(m, what), m, what); break;
            case 1: what = about(0, 2);
                is(call, "node", x.node(v, what), model.node(v, what), v, what); break;
            case 2: what = about(0, 3);
                is(call, "key", x.key(k, what), model.key(k, what), k, what); break;
            case 3: what = about(0, 2);
                is(call, "letter", x.letter(i, what), model.letter(i, what), i, what); break;
            default: what = about(0, 8);
                is(call, "count", x.count(what), model.count(what), what); break;
        }
    }
}
