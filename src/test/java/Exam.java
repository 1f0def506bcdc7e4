import java.util.ArrayList;
import java.util.List;

/**
 * All that can be asked of an object, in one order, each call with its answer: objects in the same state
 * give the same rows. It uses the object up, and takes fewer than 400 of its 512 calls.
 */
final class Exam {
    /** One that lacks the group key in most tests, so that rows of letters tell by it which ones they are. */
    private static final int READER = 3;
    private static final int LAST_KEYS = 24;
    private static final int LAST_LETTERS = 14;

    private final KeyTrees x;
    private final List<String> rows = new ArrayList<>();

    private Exam(KeyTrees x) {
        this.x = x;
    }

    static List<String> of(KeyTrees x) {
        Exam exam = new Exam(x);
        exam.counts(9);
        exam.members();
        exam.book();
        exam.sheets();
        exam.row("seed(0)", x.seed(0));
        exam.undoAll(7);
        exam.row("restore()", x.restore());
        exam.counts(9);
        exam.row("seed(0)", x.seed(0));
        exam.undoAll(3);
        exam.tape();
        return exam.rows;
    }

    private long row(String call, long answer) {
        rows.add(call + " = " + answer);
        return answer;
    }

    private void counts(int whats) {
        for (int what = 0; what < whats; what++) row("count(" + what + ")", x.count(what));
    }

    private void members() {
        int letters = x.count(5);
        for (int m = 0; m < 16; m++) {
            for (int what : new int[] {0, 1, 4, 5}) row("member(" + m + ", " + what + ")", x.member(m, what));
            if (letters > 0) row("why(" + m + ", 0)", x.why(m, 0));
            if (letters > 1) row("why(" + m + ", last)", x.why(m, letters - 1));
        }
    }

    private void book() {
        for (int v = 1; v < 32; v++) row("node(" + v + ", 0)", x.node(v, 0));
        int keys = x.count(4);
        for (int k = Math.max(0, keys - LAST_KEYS); k < keys; k++) {
            for (int what : new int[] {0, 1, 3}) row("key(" + k + ", " + what + ")", x.key(k, what));
        }
        int letters = x.count(5);
        for (int i = Math.max(0, letters - LAST_LETTERS); i < letters; i++) {
            for (int what = 0; what < 3; what++) row("letter(" + i + ", " + what + ")", x.letter(i, what));
        }
    }

    private void sheets() {
        for (int sheet = 0; sheet < 4; sheet++) {
            for (int lane = 0; lane < 4; lane++) items(sheet, lane);
            row("drop(" + sheet + ")", x.drop(sheet));
        }
    }

    /** Each item alone, and with the one behind it, until there are no more. */
    private void items(int sheet, int lane) {
        boolean more = true;
        for (int i = 0; more && i < 24; i++) {
            String place = "(3, " + sheet + ", " + lane + ", " + i;
            long alone = row("got" + place + ", 1)", x.got(READER, sheet, lane, i, 1));
            more = alone > KeyTrees.NULL;
            if (more) row("got" + place + ", 2)", x.got(READER, sheet, lane, i, 2));
        }
    }

    private void undoAll(int whats) {
        boolean more = true;
        for (int times = 0; more && times < 8; times++) {
            more = row("undo()", x.undo()) > 0;
            counts(whats);
            row("seed(0)", x.seed(0));
        }
    }

    private void tape() {
        row("type(32)", x.type(' '));
        row("read()", x.read());
        counts(3);
    }
}
