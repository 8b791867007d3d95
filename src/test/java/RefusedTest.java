import java.util.ArrayList;
import java.util.List;

/**
 * "Calls that are refused answer the first of these that fits: UNKNOWN, OUTSIDE, STATE, NO, FULL. What is refused
 * changes nothing": every refused call on a new object, on one that holds something of each, and on a full one.
 */
public final class RefusedTest {
    private static final int MIN = Integer.MIN_VALUE, MAX = Integer.MAX_VALUE;
    private static final String[] NEW = {};
    private static final String[] SOME = {
        "deeper(3, 2, 9); policy(3, 2, 0); request(50, 3, 0); journal(1); image(0); policy(3, 0, 0); power(3, 40)",
        "forget(0); deeper(0, 4, 12); deeper(0, 1, 50); policy(0, 1, 3); deeper(1, 2, 30); policy(1, 2, 0)",
        "deeper(2, 6, 9); deeper(2, 3, 20); deeper(2, 1, 70); policy(2, 3, 2); journal(2); end(77)",
        "request(9, 2, 0); request(40, 0, 1); request(20, 2, 0); request(33, 1, 0); request(90, 1, 1)",
        "count(3); waiting(0) = 1"};

    public static void main(String[] args) {
        String[][] states = {NEW, SOME, full()};
        for (String[] state : states) {
            unknown(state);
            outside(state);
            unknownBeforeOutside(state);
        }
        stateNoFull();
        outsideBeforeTheRest();
        unknownBeforeFull();
        noBeforeFull();
        Due.finish();
    }

    /** As many levels, requests, writes in the journal, ticks and images as there may be. */
    private static String[] full() {
        List<String> rows = new ArrayList<>();
        for (int d = 0; d < 4; d++) {
            rows.add("deeper(" + d + ", 6, 9); deeper(" + d + ", 3, 20); deeper(" + d + ", 1, 70)");
        }
        rows.add("policy(0, 1, 1); policy(1, 2, 0); policy(2, 3, 4); end(1000); journal(8); image(1)");
        for (int i = 0; i < 32; i++) {
            rows.add("request(" + i * 20 + ", " + i % 4 + ", " + (i / 4 + 1) % 2 + ")");
        }
        for (int i = 0; i < 8; i++) {
            rows.add("request(" + (900 + i) + ", " + i % 2 + ", 1)");
        }
        rows.add("waiting(7) = 39; image(0)");
        return rows.toArray(new String[0]);
    }

    private static void refused(String[] state, String answer, String... calls) {
        for (String call : calls) {
            Doc.says("What is refused changes nothing", Doc.join(state, Doc.rows(call + " = " + answer)));
        }
    }

    private static void unknown(String[] state) {
        for (int d : new int[] {-1, 4, MIN, MAX}) {
            refused(state, "UNKNOWN", Doc.each("power(?, 10)", d));
            refused(state, "UNKNOWN", Doc.each("deeper(?, 0, 999)", d));
            refused(state, "UNKNOWN", Doc.each("level(?, 0, 0)", d));
            refused(state, "UNKNOWN", Doc.each("policy(?, 0, 0)", d));
            refused(state, "UNKNOWN", Doc.each("request(0, ?, 0)", d));
            refused(state, "UNKNOWN", Doc.each("disk(?, 0)", d));
            refused(state, "UNKNOWN", Doc.each("at(?, 0, 0)", d));
            refused(state, "UNKNOWN", Doc.each("least(?, 0)", d));
            refused(state, "UNKNOWN", Doc.each("limited(?, 1, 0)", d));
            refused(state, "UNKNOWN", Doc.each("costs(?, 1)", d));
            refused(state, "UNKNOWN", Doc.each("worst(?, 1, 0)", d));
            refused(state, "UNKNOWN", Doc.each("drawn(?, 1, 1, 0)", d));
            refused(state, "UNKNOWN", Doc.each("level(0, ?, 0)", d));
            refused(state, "UNKNOWN", Doc.each("drawn(0, ?, 1, 0)", d));
        }
        refused(state, "UNKNOWN", "drawn(0, 0, 1, 0)");
        refused(state, "UNKNOWN", Doc.each("forget(?)", -1, 40, MIN, MAX));
        refused(state, "UNKNOWN", Doc.each("told(?, 0)", -1, 40, MIN, MAX));
        refused(state, "UNKNOWN", Doc.each("fate(?)", -1, 40, MIN, MAX));
        refused(state, "NONE", Doc.each("waiting(?)", -1, 8, MIN, MAX));
    }

    private static void outside(String[] state) {
        refused(state, "OUTSIDE", Doc.each("power(0, ?)", 0, 101, MIN, MAX));
        refused(state, "OUTSIDE", Doc.each("deeper(0, ?, 999)", -1, 100, MIN, MAX));
        refused(state, "OUTSIDE", Doc.each("deeper(0, 0, ?)", 0, 1000, MIN, MAX));
        refused(state, "OUTSIDE", Doc.each("level(0, 0, ?)", -1, 2, MIN, MAX));
        refused(state, "OUTSIDE", Doc.each("policy(0, ?, 1)", -1, 4, MIN, MAX));
        refused(state, "OUTSIDE", Doc.each("policy(0, 1, ?)", 0, 501, MIN, MAX));
        refused(state, "OUTSIDE", Doc.each("policy(0, 3, ?)", 0, 5, MIN, MAX));
        refused(state, "OUTSIDE", Doc.each("request(?, 0, 0)", -1, 1000, MIN, MAX));
        refused(state, "OUTSIDE", Doc.each("request(0, 0, ?)", -1, 2, MIN, MAX));
        refused(state, "OUTSIDE", Doc.each("end(?)", 0, 1001, MIN, MAX));
        refused(state, "OUTSIDE", Doc.each("journal(?)", -1, 9, MIN, MAX));
        refused(state, "OUTSIDE", Doc.each("disk(0, ?)", -1, 10, MIN, MAX));
        refused(state, "OUTSIDE", Doc.each("at(0, ?, 0)", -1, 1000, MIN, MAX));
        refused(state, "OUTSIDE", Doc.each("at(0, 0, ?)", -1, 3, MIN, MAX));
        refused(state, "OUTSIDE", Doc.each("least(0, ?)", -1, 3, MIN, MAX));
        refused(state, "OUTSIDE", Doc.each("limited(0, ?, 0)", 0, 1001, MIN, MAX));
        refused(state, "OUTSIDE", Doc.each("limited(0, 1, ?)", -1, 41, MIN, MAX));
        refused(state, "OUTSIDE", Doc.each("costs(0, ?)", 0, 1001, MIN, MAX));
        refused(state, "OUTSIDE", Doc.each("worst(0, ?, 0)", 0, 1001, MIN, MAX));
        refused(state, "OUTSIDE", Doc.each("worst(0, 1, ?)", -1, 3, MIN, MAX));
        refused(state, "OUTSIDE", Doc.each("count(?)", -1, 7, MIN, MAX));
        refused(state, "OUTSIDE", Doc.each("image(?)", -1, 2, MIN, MAX));
        refused(state, "OUTSIDE", Doc.each("restore(?)", -1, 2, MIN, MAX));
        if (state != NEW) {
            refused(state, "OUTSIDE", Doc.each("told(0, ?)", -1, 3, MIN, MAX));
            refused(state, "OUTSIDE", Doc.each("drawn(0, 1, ?, 0)", 0, 1001, MIN, MAX));
            refused(state, "OUTSIDE", Doc.each("drawn(0, 1, 1, ?)", -1, 3, MIN, MAX));
        }
    }

    private static void unknownBeforeOutside(String[] state) {
        refused(state, "UNKNOWN", "power(4, 0)", "power(-1, 101)", "deeper(4, 100, 1)", "deeper(-1, 0, 0)",
            "level(4, 0, 2)", "level(0, 4, 2)", "level(0, -1, -1)", "policy(4, 4, 1)", "policy(-1, 1, 0)",
            "policy(4, 3, 5)", "request(1000, 4, 0)", "request(0, -1, 2)", "told(40, 3)", "told(-1, -1)",
            "disk(4, 10)", "at(4, 1000, 0)", "at(-1, 0, 3)", "least(4, 3)", "limited(4, 0, 0)", "limited(-1, 1, 41)",
            "costs(4, 0)", "worst(4, 0, 0)", "worst(-1, 1, 3)", "drawn(4, 1, 0, 0)", "drawn(0, 0, 0, 3)",
            "drawn(0, 4, 1001, 0)", "drawn(0, -1, 1, 3)");
    }

    private static void stateNoFull() {
        refused(NEW, "STATE", "restore(0)", "restore(1)");
        refused(SOME, "STATE", "restore(1)", "costs(2, 1)", "costs(2, 1000)", "worst(2, 1, 0)", "worst(2, 1000, 2)");
        refused(full(), "STATE", "costs(2, 1)", "costs(2, 1000)", "worst(2, 1, 1)", "worst(2, 1000, 2)");
        refused(NEW, "NO", "deeper(0, 10, 1)", "deeper(3, 99, 999)");
        refused(SOME, "NO", "deeper(0, 1, 51)", "deeper(0, 99, 999)", "deeper(0, 0, 50)", "deeper(0, 0, 1)",
            "deeper(1, 2, 31)", "deeper(1, 1, 30)", "deeper(1, 5, 10)", "deeper(3, 40, 1)");
        refused(SOME, "FULL", "deeper(2, 0, 71)", "deeper(2, 0, 999)");
        refused(full(), "FULL", "request(0, 0, 0)", "request(999, 3, 1)", "deeper(0, 0, 71)", "deeper(1, 0, 999)",
            "deeper(2, 0, 71)", "deeper(3, 0, 71)");
    }

    private static void outsideBeforeTheRest() {
        refused(NEW, "OUTSIDE", "restore(2)", "restore(-1)", "deeper(0, 100, 1)", "deeper(0, 10, 0)",
            "deeper(0, 10, 1000)");
        refused(SOME, "OUTSIDE", "costs(2, 0)", "costs(2, 1001)", "worst(2, 0, 0)", "worst(2, 1001, 0)",
            "worst(2, 1, 3)", "worst(2, 1, -1)", "deeper(2, 1, 1000)", "deeper(2, 100, 71)");
        refused(full(), "OUTSIDE", "request(1000, 0, 0)", "request(-1, 0, 0)", "request(0, 0, 2)", "request(0, 0, -1)",
            "deeper(0, -1, 71)", "deeper(0, 0, 1000)", "deeper(0, 0, 0)");
    }

    private static void unknownBeforeFull() {
        refused(full(), "UNKNOWN", "request(0, 4, 0)", "request(0, -1, 1)", "deeper(4, 0, 71)");
        refused(SOME, "UNKNOWN", "costs(4, 1)", "worst(-1, 1, 0)");
    }

    private static void noBeforeFull() {
        refused(full(), "NO", "deeper(0, 1, 71)", "deeper(0, 0, 70)", "deeper(3, 99, 999)", "deeper(3, 0, 1)");
        refused(SOME, "NO", "deeper(2, 1, 71)", "deeper(2, 0, 70)");
    }
}
