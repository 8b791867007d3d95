import java.util.ArrayList;
import java.util.List;

/** Promises 21 and 22, and how long an object is used: each sentence that names a boundary. */
public final class ImagesEdgesTest {
    private static final int MIN = Integer.MIN_VALUE, MAX = Integer.MAX_VALUE;

    public static void main(String[] args) {
        promise21Image();
        promise21Kept();
        promise22Restore();
        fullAndEmpty();
        atMost512Calls();
        Due.finish();
    }

    private static void promise21Image() {
        Doc.says("kept in an IMAGE (0, 1)", Doc.join(
            Doc.each("image(?) = OUTSIDE; count(6) = 0", -1, 2, MIN, MAX),
            Doc.rows("image(0) = 1; count(6) = 1; image(2) = OUTSIDE; image(1) = 1; count(6) = 3; image(-1) = OUTSIDE")));
        Doc.says("in place of what was kept there",
            "end(10); image(0) = 1; end(20); image(0) = 1; end(30); restore(0) = 1; count(1) = 20; count(6) = 1",
            "end(40); image(1) = 1; restore(0) = 1; count(1) = 20; restore(1) = 1; count(1) = 40");
    }

    private static void promise21Kept() {
        Doc.says("DISKS are kept", "deeper(2, 5, 50); deeper(2, 3, 60); power(3, 77); image(0); power(2, 20); power(3, 1)",
            "deeper(2, 19, 1); deeper(2, 18, 2); deeper(2, 17, 3); deeper(0, 1, 1); restore(0)",
            "level(2, 0, 0) = 10; level(2, 0, 1) = 0; level(2, 1, 0) = 5; level(2, 1, 1) = 50",
            "level(2, 2, 0) = 3; level(2, 2, 1) = 60; level(2, 3, 0) = UNKNOWN; level(3, 0, 0) = 77; level(0, 1, 0) = UNKNOWN");
        Doc.says("POLICIES are kept, with n", "deeper(0, 5, 5); policy(0, 1, 7); policy(1, 3, 2); policy(2, 2, 0); image(1)",
            "request(4, 1, 0); request(10, 1, 0); request(40, 1, 0); policy(0, 1, 3); policy(1, 3, 1); policy(2, 0, 0)",
            "policy(3, 1, 1); image(0); restore(1); at(0, 6, 0) = 0; at(0, 7, 0) = 1; count(0) = 0",
            "request(4, 1, 0); request(10, 1, 0); request(40, 1, 0); disk(1, 9) = 18",
            "policy(0, 0, 0) = 1; policy(1, 0, 0) = 3; policy(2, 0, 0) = 2; policy(3, 0, 0) = 0");
        Doc.says("REQUESTS, END and ROOM are kept", "request(4, 1, 0); request(9, 3, 1); end(1000); journal(8); image(0)",
            "forget(0); request(1, 0, 0); request(2, 0, 0); end(1); journal(0); restore(0); count(0) = 2; count(1) = 1000",
            "count(2) = 8; told(0, 0) = 4; told(0, 1) = 1; told(0, 2) = 0; told(1, 0) = 9; told(1, 1) = 3; told(1, 2) = 1",
            "told(2, 0) = UNKNOWN; fate(1) = 3");
    }

    private static void promise22Restore() {
        Doc.says("STATE: nothing was kept in it; OUTSIDE goes before it", Doc.join(
            Doc.rows("restore(0) = STATE; restore(1) = STATE"),
            Doc.each("restore(?) = OUTSIDE", -1, 2, MIN, MAX),
            Doc.rows("image(0); restore(1) = STATE; restore(0) = 1"),
            Doc.each("restore(?) = OUTSIDE", -1, 2, MIN, MAX),
            Doc.rows("image(1); restore(1) = 1; restore(2) = OUTSIDE")));
        Doc.says("STATE: the other IMAGE is kept", "image(1); restore(0) = STATE; restore(1) = 1; restore(0) = STATE");
        Doc.says("They are as they were when they were kept; the IMAGE stays",
            "request(5, 0, 0); image(0); count(6) = 1; forget(0); restore(0) = 1; count(0) = 1; count(6) = 1",
            "request(6, 0, 0); restore(0) = 1; count(0) = 1; end(7); restore(0) = 1; count(1) = 100; deeper(0, 1, 1)",
            "restore(0) = 1; level(0, 1, 0) = UNKNOWN; policy(0, 1, 1); restore(0) = 1; policy(0, 0, 0) = 0");
        Doc.says("They are as they were: THE RUN too",
            "deeper(0, 1, 2); policy(0, 1, 1); journal(1); request(5, 0, 1); image(1); disk(0, 0) = 109; request(8, 0, 0)",
            "disk(0, 0) = 120; fate(0) = 4; restore(1); disk(0, 0) = 109; fate(0) = 5; waiting(0) = 0; fate(1) = UNKNOWN");
    }

    private static String[] most() {
        List<String> rows = new ArrayList<>();
        for (int d = 0; d < 4; d++) {
            rows.add("power(" + d + ", 100); deeper(" + d + ", 99, 1); deeper(" + d + ", 98, 2); deeper(" + d + ", 0, 999)");
        }
        for (int i = 0; i < 40; i++) {
            rows.add("request(" + (999 - i) + ", " + i % 4 + ", " + i % 2 + ")");
        }
        rows.add("end(1000); journal(8)");
        return rows.toArray(new String[0]);
    }

    private static void fullAndEmpty() {
        Doc.says("They are as they were: none at all, and as many as there may be", Doc.join(
            Doc.rows("image(1) = 1"), most(),
            Doc.rows("image(0) = 1; restore(1) = 1; count(0) = 0; count(1) = 100; count(2) = 0; count(3) = 4000"),
            Doc.rows("told(0, 0) = UNKNOWN; forget(0) = UNKNOWN; level(3, 1, 0) = UNKNOWN; level(3, 0, 0) = 10"),
            Doc.rows("restore(0) = 1; count(0) = 40; request(0, 0, 0) = FULL; count(1) = 1000; count(2) = 8"),
            Doc.rows("told(0, 0) = 999; told(39, 0) = 960; told(39, 1) = 3; told(39, 2) = 1; told(40, 0) = UNKNOWN"),
            Doc.rows("level(3, 0, 0) = 100; level(3, 1, 0) = 99; level(3, 2, 1) = 2; level(3, 3, 1) = 999"),
            Doc.rows("deeper(3, 0, 999) = NO; level(0, 3, 0) = 0; count(6) = 3")));
    }

    private static void atMost512Calls() {
        String[] rows = new String[512];
        for (int i = 0; i < 511; i++) {
            rows[i] = i % 3 == 0 ? "request(" + i + ", " + i % 4 + ", " + i % 2 + ")"
                : i % 3 == 1 ? "image(" + i % 2 + ") = 1" : "restore(" + (i - 1) % 2 + ") = 1";
        }
        rows[511] = "count(0) = 40";
        Doc.says("An object is used for at most 512 calls: the last of them", rows);
        rows[511] = "told(39, 0) = 117";
        Doc.says("An object is used for at most 512 calls: the last of them", rows);
    }
}
