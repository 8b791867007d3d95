/** Part 1 of the document's terms and promises 1 to 10: each sentence that names a boundary. */
public final class DisksEdgesTest {
    private static final int MIN = Integer.MIN_VALUE, MAX = Integer.MAX_VALUE;

    public static void main(String[] args) {
        newObject();
        disksAre0To3();
        powerOfLevel0();
        deeperLevels();
        powerLessThanAbove();
        wakeMoreThanAbove();
        deepest();
        promise2Power();
        promise3Bounds();
        promise4Level();
        promise5Kinds();
        promise5n();
        promise6Bounds();
        promise6Full();
        promise7Forget();
        promise8Told();
        promise9End();
        promise10Journal();
        Due.finish();
    }

    private static void newObject() {
        Doc.says("No REQUESTS",
            "count(0) = 0; told(0, 0) = UNKNOWN; fate(0) = UNKNOWN; forget(0) = UNKNOWN; count(0) = 0",
            "waiting(0) = NONE; count(4) = 0; count(5) = 0; request(0, 0, 0) = 0");
        Doc.says("all DISKS STAY",
            "policy(0, 0, 0) = 0; policy(1, 1, 1) = 0; policy(2, 2, 1) = 0; policy(3, 3, 1) = 0");
        for (int d = 0; d < 4; d++) {
            Doc.says("all DISKS STAY: at level 0 as long as the run is",
                "deeper(" + d + ", 0, 1); end(1000); at(" + d + ", 999, 0) = 0; disk(" + d + ", 0) = 10000",
                "costs(" + d + ", 1000) = 10000");
        }
        Doc.says("no IMAGE is kept", "count(6) = 0; restore(0) = STATE; restore(1) = STATE; count(6) = 0");
    }

    private static void disksAre0To3() {
        String[] calls = {"power(?, 10) = 10", "deeper(?, 5, 5) = 1", "level(?, 0, 0) = 10", "policy(?, 1, 1) = 0",
            "disk(?, 8) = 1", "at(?, 0, 2) = 10", "least(?, 1) = 1", "limited(?, 1, 0) = 500", "costs(?, 1) = 10",
            "worst(?, 1, 2) = 1", "drawn(?, 1, 1, 2) = 1"};
        for (String call : calls) {
            Doc.says("DISKS are 0 to 3", Doc.each(call.replaceAll("= .*", "= UNKNOWN"), -1, 4, MIN, MAX));
        }
        for (int d = 0; d < 4; d++) {
            Doc.says("DISKS are 0 to 3", Doc.join(
                Doc.each("request(1, ?, 0) = UNKNOWN", -1, 4, MIN, MAX),
                Doc.each(String.join("; ", calls), d),
                Doc.each("request(0, ?, 0) = 0; told(0, 1) = ?", d)));
        }
    }

    private static void powerOfLevel0() {
        for (int d = 0; d < 4; d++) {
            Doc.says("a POWER of 1 to 100 (10 at first)", Doc.join(
                Doc.each("level(?, 0, 0) = 10; power(?, 0) = OUTSIDE; power(?, 1) = 10; level(?, 0, 0) = 1", d),
                Doc.each("power(?, 100) = 1; power(?, 101) = OUTSIDE; level(?, 0, 0) = 100", d),
                Doc.each("power(?, -1) = OUTSIDE; power(?, MIN) = OUTSIDE; power(?, MAX) = OUTSIDE", d)));
        }
        Doc.says("OUTSIDE: a POWER that would be one of a deeper LEVEL", "power(0, 5); power(0, 0) = OUTSIDE");
    }

    private static void deeperLevels() {
        for (int d = 0; d < 4; d++) {
            Doc.says("up to three deeper ones, 1, 2, 3 (none at first)", Doc.join(
                Doc.each("level(?, 1, 0) = UNKNOWN; drawn(?, 1, 1, 0) = UNKNOWN", d),
                Doc.each("deeper(?, 8, 3) = 1; level(?, 1, 0) = 8; level(?, 2, 0) = UNKNOWN", d),
                Doc.each("deeper(?, 6, 5) = 2; level(?, 2, 1) = 5; level(?, 3, 0) = UNKNOWN", d),
                Doc.each("deeper(?, 4, 7) = 3; level(?, 3, 0) = 4; level(?, 4, 0) = UNKNOWN", d),
                Doc.each("deeper(?, 2, 9) = FULL; level(?, 3, 0) = 4; level(?, 3, 1) = 7", d)));
        }
        Doc.says("FULL: there are LEVELS 0 to 3, of this DISK alone",
            "deeper(1, 8, 3); deeper(1, 6, 5); deeper(1, 4, 7); deeper(1, 3, 8) = FULL; deeper(2, 8, 3) = 1");
    }

    private static void powerLessThanAbove() {
        Doc.says("each with a POWER, less than that of the LEVEL above it",
            "deeper(0, 11, 1) = NO; deeper(0, 10, 1) = NO; deeper(0, 99, 1) = NO; deeper(0, 9, 1) = 1",
            "deeper(0, 10, 2) = NO; deeper(0, 9, 2) = NO; deeper(0, 8, 2) = 2",
            "deeper(0, 9, 3) = NO; deeper(0, 8, 3) = NO; deeper(0, 7, 3) = 3",
            "deeper(0, 8, 4) = NO; deeper(0, 7, 4) = NO; deeper(0, 6, 4) = FULL");
        Doc.says("the POWER is not less than that of DEEPEST: none is less than 0",
            "deeper(0, 0, 1) = 1; deeper(0, 0, 2) = NO; deeper(0, -1, 2) = OUTSIDE");
        Doc.says("the POWER is not less than that of DEEPEST: a POWER of 1 leaves but 0",
            "power(0, 1); deeper(0, 1, 1) = NO; deeper(0, 0, 1) = 1");
    }

    private static void wakeMoreThanAbove() {
        Doc.says("a WAKE, more than that of the LEVEL above it (the WAKE of LEVEL 0 is 0)",
            "level(0, 0, 1) = 0; deeper(0, 9, 1) = 1; level(0, 0, 1) = 0",
            "deeper(0, 8, 1) = NO; deeper(0, 8, 2) = 2; deeper(0, 7, 1) = NO; deeper(0, 7, 2) = NO",
            "deeper(0, 7, 500) = 3; deeper(0, 6, 499) = NO; deeper(0, 6, 500) = NO; deeper(0, 6, 1) = NO",
            "deeper(0, 6, 501) = FULL; power(0, 20) = 10; level(0, 0, 1) = 0");
        Doc.says("the WAKE is not more than that of DEEPEST: none is more than 999",
            "deeper(0, 5, 999) = 1; deeper(0, 4, 999) = NO; deeper(0, 4, 1000) = OUTSIDE; deeper(0, 4, 1) = NO");
    }

    private static void deepest() {
        Doc.says("DEEPEST: the greatest LEVEL that there is",
            "end(9); policy(0, 1, 1); at(0, 8, 0) = 0",
            "deeper(0, 9, 1); at(0, 1, 0) = 1; at(0, 8, 0) = 1",
            "deeper(0, 8, 2); at(0, 2, 0) = 2; at(0, 8, 0) = 2",
            "deeper(0, 7, 3); at(0, 3, 0) = 3; at(0, 8, 0) = 3",
            "power(0, 10); at(0, 8, 0) = 0");
    }

    private static void promise2Power() {
        Doc.says("LEVEL 0 of a DISK has another POWER (or the same); deeper LEVELS are gone",
            "deeper(0, 5, 50); deeper(0, 3, 60); deeper(0, 1, 70); deeper(1, 5, 50)",
            "power(0, 10) = 10; level(0, 0, 0) = 10; level(0, 0, 1) = 0",
            "level(0, 1, 0) = UNKNOWN; level(0, 2, 0) = UNKNOWN; level(0, 3, 0) = UNKNOWN",
            "drawn(0, 1, 1, 2) = UNKNOWN; level(1, 1, 0) = 5",
            "deeper(0, 9, 1) = 1; deeper(0, 8, 2) = 2; deeper(0, 7, 3) = 3; deeper(0, 6, 4) = FULL",
            "power(0, 8) = 10; level(0, 1, 0) = UNKNOWN; deeper(0, 8, 1) = NO; deeper(0, 7, 1) = 1");
        Doc.says("deeper LEVELS are gone; the POLICY is not",
            "policy(0, 1, 2); deeper(0, 5, 5); power(0, 20) = 10; deeper(0, 4, 9); at(0, 1, 0) = 0; at(0, 2, 0) = 1",
            "policy(0, 0, 0) = 1");
        Doc.says("What is refused changes nothing: deeper LEVELS stay",
            "deeper(0, 5, 50); power(0, 0) = OUTSIDE; power(0, 101) = OUTSIDE; level(0, 1, 0) = 5; level(0, 1, 1) = 50");
    }

    private static void promise3Bounds() {
        Doc.says("OUTSIDE: the POWER, 0 to 99", Doc.join(
            Doc.rows("power(0, 100)"),
            Doc.each("deeper(0, ?, 5) = OUTSIDE", -1, 100, 101, MIN, MAX),
            Doc.rows("deeper(0, 99, 5) = 1; deeper(0, 0, 6) = 2; level(0, 1, 0) = 99; level(0, 2, 0) = 0")));
        Doc.says("OUTSIDE: the WAKE, 1 to 999", Doc.join(
            Doc.each("deeper(0, 5, ?) = OUTSIDE", 0, -1, 1000, MIN, MAX),
            Doc.rows("deeper(0, 5, 1) = 1; deeper(0, 4, 999) = 2; level(0, 1, 1) = 1; level(0, 2, 1) = 999")));
        Doc.says("A DISK has one LEVEL more, deeper than all: its number",
            "deeper(3, 9, 1) = 1; deeper(0, 9, 1) = 1; deeper(3, 5, 2) = 2; deeper(3, 1, 3) = 3; deeper(0, 5, 2) = 2",
            "level(3, 1, 0) = 9; level(3, 2, 0) = 5; level(3, 3, 0) = 1; level(0, 2, 1) = 2");
    }

    private static void promise4Level() {
        Doc.says("UNKNOWN: both", Doc.join(
            Doc.each("level(0, ?, 0) = UNKNOWN", -1, 1, 2, 3, 4, MIN, MAX),
            Doc.rows("deeper(0, 6, 20); deeper(0, 5, 21); deeper(0, 4, 22)"),
            Doc.each("level(0, ?, 0) = UNKNOWN; level(0, ?, 1) = UNKNOWN", -1, 4, 5, MIN, MAX),
            Doc.rows("level(0, 0, 0) = 10; level(0, 0, 1) = 0; level(0, 1, 0) = 6; level(0, 1, 1) = 20"),
            Doc.rows("level(0, 2, 0) = 5; level(0, 2, 1) = 21; level(0, 3, 0) = 4; level(0, 3, 1) = 22"),
            Doc.each("level(?, 0, 0) = UNKNOWN; level(?, 3, 1) = UNKNOWN", -1, 4, MIN, MAX)));
        Doc.says("the POWER (what = 0), the WAKE (1)", Doc.join(
            Doc.rows("deeper(0, 6, 20)"),
            Doc.each("level(0, 0, ?) = OUTSIDE; level(0, 1, ?) = OUTSIDE", -1, 2, MIN, MAX)));
    }

    private static void promise5Kinds() {
        Doc.says("a KIND (0 to 3): which KIND it had", Doc.join(
            Doc.each("policy(0, ?, 1) = OUTSIDE", -1, 4, MIN, MAX),
            Doc.rows("policy(0, 0, 1) = 0; policy(0, 1, 1) = 0; policy(0, 2, 1) = 1; policy(0, 3, 1) = 2"),
            Doc.rows("policy(0, 3, 2) = 3; policy(0, -1, 1) = OUTSIDE; policy(0, 4, 1) = OUTSIDE"),
            Doc.rows("policy(0, 0, 1) = 3; policy(1, 0, 0) = 0; policy(2, 0, 0) = 0; policy(3, 0, 0) = 0")));
    }

    private static void promise5n() {
        Doc.says("n (of KINDS 0, 2 no matter)",
            "policy(0, 0, MIN) = 0; policy(0, 2, MIN) = 0; policy(0, 0, MAX) = 2; policy(0, 2, MAX) = 0",
            "policy(0, 0, 0) = 2; policy(0, 2, 0) = 0; policy(0, 2, 501) = 2; policy(0, 0, 501) = 2; policy(0, 0, -1) = 0",
            "deeper(0, 1, 9); at(0, 5, 0) = 0; policy(0, 2, -1) = 0; at(0, 1, 0) = 0; at(0, 2, 0) = 1");
        Doc.says("STEPS of n (1 to 500)", Doc.join(
            Doc.rows("deeper(0, 9, 1); end(1000); policy(0, 1, 7)"),
            Doc.each("policy(0, 1, ?) = OUTSIDE", 0, -1, 501, MIN, MAX),
            Doc.rows("at(0, 6, 0) = 0; at(0, 7, 0) = 1; policy(0, 1, 500) = 1; at(0, 499, 0) = 0; at(0, 500, 0) = 1"),
            Doc.rows("policy(0, 1, 1) = 1; at(0, 0, 0) = 0; at(0, 1, 0) = 1")));
        Doc.says("FORETOLD by n (1 to 4)", Doc.join(
            Doc.rows("request(4, 0, 0); request(10, 0, 0); request(18, 0, 0); request(28, 0, 0); request(40, 0, 0)"),
            Doc.rows("policy(0, 3, 2); disk(0, 9) = 11"),
            Doc.each("policy(0, 3, ?) = OUTSIDE; disk(0, 9) = 11", 0, -1, 5, 500, MIN, MAX),
            Doc.rows("policy(0, 3, 1) = 3; disk(0, 9) = 12; policy(0, 3, 4) = 3; disk(0, 9) = 9")));
        Doc.says("OUTSIDE: the KIND, n: the KIND that it had stays too",
            "policy(0, 2, 0); policy(0, 1, 0) = OUTSIDE; policy(0, 3, 5) = OUTSIDE; policy(0, 1, 501) = OUTSIDE",
            "policy(0, 0, 0) = 2");
    }

    private static void promise6Bounds() {
        Doc.says("TICKS are 0 to 999", Doc.join(
            Doc.each("request(?, 0, 0) = OUTSIDE", -1, 1000, MIN, MAX),
            Doc.rows("request(0, 0, 0) = 0; request(999, 0, 0) = 1; request(-1, 0, 0) = OUTSIDE"),
            Doc.rows("request(1000, 0, 0) = OUTSIDE; count(0) = 2; told(0, 0) = 0; told(1, 0) = 999")));
        Doc.says("a TICK that is not less than END is as told", "end(1); request(1, 0, 0) = 0; request(999, 0, 1) = 1",
            "fate(0) = 0; fate(1) = 0; disk(0, 2) = 0; disk(0, 3) = 0");
        Doc.says("a READ (kind = 0), a WRITE (1)", Doc.join(
            Doc.each("request(0, 0, ?) = OUTSIDE", -1, 2, 3, MIN, MAX),
            Doc.rows("request(0, 0, 0) = 0; request(0, 0, 1) = 1; told(0, 2) = 0; told(1, 2) = 1; count(0) = 2")));
    }

    /** So many requests, of rising ticks from 0 on and of all disks in turn, reads and writes by twos. */
    private static String[] requests(int many) {
        String[] found = new String[many];
        for (int i = 0; i < many; i++) {
            found[i] = "request(" + i * 25 + ", " + i % 4 + ", " + i / 2 % 2 + ") = " + i;
        }
        return found;
    }

    private static void promise6Full() {
        Doc.says("REQUESTS, up to 40, are numbered from 0 on as they come", Doc.join(
            requests(40),
            Doc.rows("count(0) = 40; request(0, 0, 0) = FULL; request(999, 3, 1) = FULL; count(0) = 40"),
            Doc.rows("told(39, 0) = 975; told(39, 1) = 3; told(39, 2) = 1; told(40, 0) = UNKNOWN"),
            Doc.rows("forget(7) = 39; request(5, 1, 0) = 39; told(39, 0) = 5; told(38, 0) = 975"),
            Doc.rows("request(0, 0, 0) = FULL; count(0) = 40")));
        Doc.says("up to 40, of one TICK and one DISK too", Doc.join(
            Doc.each("request(999, 3, 0); count(0) = ?", java.util.stream.IntStream.rangeClosed(1, 40).toArray()),
            Doc.rows("request(999, 3, 0) = FULL; end(1000); disk(3, 2) = 40; disk(3, 6) = 1; disk(3, 7) = 1")));
    }

    private static void promise7Forget() {
        Doc.says("UNKNOWN: no such REQUEST", Doc.join(
            Doc.each("forget(?) = UNKNOWN", 0, -1, MIN, MAX),
            requests(3),
            Doc.each("forget(?) = UNKNOWN", -1, 3, 39, 40, MIN, MAX),
            Doc.rows("forget(2) = 2; forget(2) = UNKNOWN; forget(0) = 1; told(0, 0) = 25; forget(0) = 0"),
            Doc.rows("forget(0) = UNKNOWN; told(0, 0) = UNKNOWN; count(0) = 0; request(9, 1, 1) = 0; told(0, 0) = 9")));
        Doc.says("when one goes, those behind it are one less", Doc.join(
            requests(40),
            Doc.rows("forget(0) = 39; told(0, 0) = 25; told(0, 1) = 1; told(38, 0) = 975; told(39, 0) = UNKNOWN"),
            Doc.rows("forget(38) = 38; told(37, 0) = 950; told(37, 1) = 2; told(37, 2) = 1; told(38, 0) = UNKNOWN"),
            Doc.rows("forget(20) = 37; told(19, 0) = 500; told(20, 0) = 550; told(20, 1) = 2; told(20, 2) = 1"),
            Doc.rows("forget(37) = UNKNOWN; told(36, 0) = 950")));
        Doc.says("when one goes, those behind it are one less, in the JOURNAL too",
            "journal(3); deeper(0, 1, 1); policy(0, 1, 1); request(5, 0, 1); request(6, 0, 1); request(7, 0, 1)",
            "waiting(0) = 0; waiting(1) = 1; waiting(2) = 2; forget(1) = 2; waiting(0) = 0; waiting(1) = 1",
            "waiting(2) = NONE; told(1, 0) = 7; fate(1) = 5; fate(2) = UNKNOWN");
    }

    private static void promise8Told() {
        Doc.says("the TICK (what = 0), the DISK (1), 0 a READ, 1 a WRITE (2)", Doc.join(
            Doc.each("told(?, 0) = UNKNOWN", 0, -1, MIN, MAX),
            Doc.rows("request(999, 3, 1); request(0, 0, 0)"),
            Doc.rows("told(0, 0) = 999; told(0, 1) = 3; told(0, 2) = 1; told(1, 0) = 0; told(1, 1) = 0; told(1, 2) = 0"),
            Doc.each("told(?, 0) = UNKNOWN; told(?, 1) = UNKNOWN; told(?, 2) = UNKNOWN", -1, 2, 40, MIN, MAX),
            Doc.each("told(0, ?) = OUTSIDE; told(1, ?) = OUTSIDE", -1, 3, MIN, MAX)));
    }

    private static void promise9End() {
        Doc.says("END is 1 to 1000 (100 at first)", Doc.join(
            Doc.rows("count(1) = 100; request(50, 0, 0)"),
            Doc.each("end(?) = OUTSIDE; count(1) = 100", 0, -1, 1001, MIN, MAX),
            Doc.rows("end(1000) = 100; count(1) = 1000; end(1001) = OUTSIDE; count(1) = 1000; end(1000) = 1000"),
            Doc.rows("end(1) = 1000; count(1) = 1; end(0) = OUTSIDE; count(1) = 1; end(1) = 1; end(2) = 1")));
    }

    private static void promise10Journal() {
        Doc.says("The JOURNAL has ROOM for 0 to 8 WRITES (0 at first)", Doc.join(
            Doc.rows("count(2) = 0"),
            Doc.each("journal(?) = OUTSIDE; count(2) = 0", -1, 9, MIN, MAX),
            Doc.rows("journal(8) = 0; count(2) = 8; journal(9) = OUTSIDE; count(2) = 8; journal(8) = 8"),
            Doc.rows("journal(0) = 8; count(2) = 0; journal(-1) = OUTSIDE; journal(0) = 0; journal(1) = 0")));
    }
}
