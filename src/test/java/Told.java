import java.util.ArrayList;
import java.util.List;

/** All that an object tells of its state, as rows "call = answer", within so many calls. */
final class Told {
    private final DiskRests x;
    private final List<String> rows = new ArrayList<>();
    private int calls;

    private Told(DiskRests x) {
        this.x = x;
    }

    /** What is told now (image = -1) or when an image has been restored. */
    static List<String> all(DiskRests x, int image, int mostCalls) {
        Told told = new Told(x);
        if (image >= 0) {
            told.row("restore(" + image + ")", x.restore(image));
        }
        told.counts();
        told.requests();
        for (int d = 0; d < 4; d++) {
            told.levels(d);
            told.run(d);
            told.rests(d);
        }
        told.policies();
        Due.holds("calls are left to look at all: " + told.calls + " of " + mostCalls, told.calls <= mostCalls);
        return told.rows;
    }

    private void row(String call, int answer) {
        calls++;
        rows.add(call + " = " + answer);
    }

    private void counts() {
        for (int what = 0; what <= 6; what++) {
            row("count(" + what + ")", x.count(what));
        }
        for (int i = 0; i <= 8; i++) {
            row("waiting(" + i + ")", x.waiting(i));
        }
    }

    /** Those that there are, and the first that there is not. */
    private void requests() {
        calls++;
        int held = x.count(0);
        for (int r = 0; r <= held; r++) {
            row("fate(" + r + ")", x.fate(r));
            for (int what = 0; what < 3; what++) {
                row("told(" + r + ", " + what + ")", x.told(r, what));
            }
        }
    }

    private void levels(int d) {
        for (int l = 0; l < 4; l++) {
            for (int what = 0; what < 2; what++) {
                row("level(" + d + ", " + l + ", " + what + ")", x.level(d, l, what));
            }
        }
    }

    private void run(int d) {
        for (int what = 0; what < 10; what++) {
            row("disk(" + d + ", " + what + ")", x.disk(d, what));
        }
        calls++;
        int end = x.count(1);
        for (int tick : new int[] {0, end / 2, end - 1}) {
            for (int what = 0; what < 3; what++) {
                row("at(" + d + ", " + tick + ", " + what + ")", x.at(d, tick, what));
            }
        }
    }

    private void rests(int d) {
        for (int what = 0; what < 3; what++) {
            row("least(" + d + ", " + what + ")", x.least(d, what));
        }
        row("limited(" + d + ", 20, 1)", x.limited(d, 20, 1));
        row("costs(" + d + ", 1000)", x.costs(d, 1000));
        row("worst(" + d + ", 1000, 0)", x.worst(d, 1000, 0));
        for (int l = 1; l < 4; l++) {
            row("drawn(" + d + ", " + l + ", 9, 0)", x.drawn(d, l, 9, 0));
        }
    }

    /** Last of all: a policy is told only by the call that sets another one. */
    private void policies() {
        for (int d = 0; d < 4; d++) {
            row("policy(" + d + ", 0, 0)", x.policy(d, 0, 0));
        }
    }
}
