import java.util.List;

/**
 * Tests of those sentences of the document that name a limit. What follows a sentence tests it; an answer
 * that is not the one that is due is printed with it.
 */
final class Limits {
    /** Calls by which an object comes to a state. */
    interface Steps {
        void tell(KeyTrees x);
    }

    /** One call, and its answer. */
    interface Call {
        long on(KeyTrees x);
    }

    /** Numbers that are no members. */
    static final int[] NO_MEMBERS = {-1, 16, Integer.MIN_VALUE, Integer.MAX_VALUE};

    private final Due due;
    private String sentence = "";

    Limits(String test) {
        due = new Due(test);
    }

    void sentence(String where, String words) {
        sentence = where + ": " + words;
    }

    void is(String call, long got, long want) {
        due.is(got == want ? call : "[" + sentence + "] " + call, got, want);
    }

    /** The call's answer in that state is the one that is due, and all is then as if it had not been told. */
    void keeps(String call, Steps state, Call told, long want) {
        KeyTrees x = new KeyTrees();
        state.tell(x);
        is(call, told.on(x), want);
        KeyTrees other = new KeyTrees();
        state.tell(other);
        same(call + " changes nothing", x, other);
    }

    /** Both runs of calls bring an object to the same state. */
    void alike(String what, Steps one, Steps other) {
        KeyTrees x = new KeyTrees();
        one.tell(x);
        KeyTrees y = new KeyTrees();
        other.tell(y);
        same(what, x, y);
    }

    private void same(String what, KeyTrees x, KeyTrees other) {
        List<String> rows = Exam.of(x);
        List<String> dues = Exam.of(other);
        int row = 0;
        while (row < rows.size() && row < dues.size() && rows.get(row).equals(dues.get(row))) row++;
        boolean alike = row == rows.size() && row == dues.size();
        String unlike = alike ? "" : ": " + at(rows, row) + ", due is " + at(dues, row);
        is(what + unlike, alike ? 1 : 0, 1);
    }

    private static String at(List<String> rows, int row) {
        return row < rows.size() ? rows.get(row) : "no more";
    }

    void end() {
        due.end();
    }
}
