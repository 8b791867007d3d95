import java.util.stream.IntStream;

/** Part 3 of the document's terms and promises 15 to 19: each sentence that names a boundary. */
public final class RestsEdgesTest {
    private static final int MIN = Integer.MIN_VALUE, MAX = Integer.MAX_VALUE;

    public static void main(String[] args) {
        gapsBeforeEnd();
        gapsOfNoTick();
        gapsAsTheyRise();
        mostGaps();
        costsOfGaps();
        promise15Least();
        promise16Bounds();
        promise16Days();
        promise16AtMostN();
        promise16ToEnd();
        promise17Bounds();
        promise17Costs();
        promise18Bounds();
        promise18Worst();
        promise19Bounds();
        promise19B();
        promise19Drawn();
        lowestTerms();
        Due.finish();
    }

    private static void gapsBeforeEnd() {
        Doc.says("all REQUESTS of it whose TICKS are less than END",
            "request(50, 0, 0); end(50); least(0, 1) = 1; end(51); least(0, 1) = 2; end(1); least(0, 1) = 1",
            "request(999, 0, 1); end(999); least(0, 1) = 2; end(1000); least(0, 1) = 3");
        Doc.says("from 0 to END, if there are none", "deeper(0, 3, 999); least(0, 1) = 1; least(0, 0) = 300",
            "end(1); least(0, 1) = 1; least(0, 0) = 3; end(1000); least(0, 1) = 1; least(0, 0) = 3000",
            "request(5, 1, 0); least(0, 1) = 1; end(5); request(5, 0, 0); least(0, 1) = 1; least(0, 0) = 15");
    }

    private static void gapsOfNoTick() {
        Doc.says("if it has no TICK, it is none: from TICK 0 to that of the first",
            "request(0, 0, 0); least(0, 1) = 1; request(0, 0, 1); least(0, 1) = 1; request(1, 0, 0); least(0, 1) = 2",
            "end(1); least(0, 1) = 1; forget(2); forget(1); forget(0); least(0, 1) = 1");
        Doc.says("if it has no TICK, it is none: from each one's TICK to the next one's",
            "request(50, 0, 0); least(0, 1) = 2; request(50, 0, 0); least(0, 1) = 2; request(50, 0, 1); least(0, 1) = 2",
            "request(51, 0, 1); least(0, 1) = 3; request(49, 0, 1); least(0, 1) = 4");
        Doc.says("the GAP to END has a TICK always",
            "deeper(0, 4, 999); request(99, 0, 0); least(0, 1) = 2; least(0, 0) = 994; least(0, 2) = 1",
            "request(0, 0, 0); end(1); least(0, 1) = 1; least(0, 0) = 4");
    }

    private static void gapsAsTheyRise() {
        Doc.says("are taken as they rise",
            "deeper(0, 0, 100); request(60, 0, 0); request(15, 0, 1); request(90, 0, 0); request(30, 0, 1)",
            "least(0, 1) = 5; least(0, 0) = " + (100 + 100 + 100 + 100) + "; least(0, 2) = 5",
            "forget(1); least(0, 1) = 4; least(0, 0) = 300");
        Doc.says("READS and WRITES alike, those that come into the JOURNAL too",
            "deeper(0, 0, 100); policy(0, 1, 1); journal(8); request(20, 0, 1); request(40, 0, 1); fate(1) = 5",
            "least(0, 1) = 3; least(0, 0) = 200");
    }

    /** Forty requests of disk 0, at ticks 2, 4, .. 80. */
    private static String[] forty() {
        return IntStream.rangeClosed(1, 40).mapToObj(i -> "request(" + 2 * i + ", 0, " + i % 2 + ")").toArray(String[]::new);
    }

    private static void mostGaps() {
        Doc.says("a GAP from TICK 0, from each one's TICK, to END: as many as there may be", Doc.join(
            Doc.rows("deeper(0, 0, 5)"), forty(),
            Doc.rows("least(0, 1) = 41; least(0, 0) = 200; least(0, 2) = 41; forget(39); least(0, 1) = 40"),
            Doc.rows("request(0, 0, 0); least(0, 1) = 40; end(80); least(0, 1) = 40; end(78); least(0, 1) = 39"),
            Doc.rows("end(2); least(0, 1) = 1; least(1, 1) = 1")));
    }

    private static void costsOfGaps() {
        Doc.says("its POWER times g, and its WAKE; but for the GAP to END: its POWER times g",
            "deeper(0, 4, 30); deeper(0, 1, 75); request(5, 0, 0); least(0, 0) = " + (50 + 95),
            "forget(0); request(6, 0, 0); least(0, 0) = " + (54 + 94) + "; forget(0); request(15, 0, 0)",
            "least(0, 0) = " + (90 + 85) + "; forget(0); request(16, 0, 0); least(0, 0) = " + (91 + 84));
        Doc.says("but for the GAP to END: its POWER times g, of one TICK", "deeper(0, 9, 999); end(1); least(0, 0) = 9",
            "least(0, 2) = 1; request(0, 0, 0); least(0, 0) = 9; least(0, 2) = 1; limited(0, 1, 0) = 9");
    }

    private static void promise15Least() {
        Doc.says("least: OUTSIDE", Doc.each("least(0, ?) = OUTSIDE", -1, 3, MIN, MAX));
        Doc.says("for how many of them LEAST is less than what LEVEL 0 COSTS",
            "deeper(0, 9, 10); request(10, 0, 0); least(0, 0) = " + (100 + 90 * 9) + "; least(0, 2) = 1; forget(0)",
            "request(11, 0, 0); least(0, 0) = " + (109 + 89 * 9) + "; least(0, 2) = 2",
            "power(0, 10); least(0, 0) = 1000; least(0, 2) = 0; least(0, 1) = 2");
        Doc.says("LEAST, added: the most", "power(0, 100); end(1000); least(0, 0) = 100000; request(999, 0, 0)",
            "least(0, 0) = 100000; deeper(0, 0, 999); least(0, 0) = 999");
    }

    private static void promise16Bounds() {
        Doc.says("of so many TICKS, 1 to 1000", Doc.join(
            Doc.rows("deeper(0, 0, 50); request(20, 0, 0); limited(0, 1, 1) = 50; limited(0, 1000, 1) = 50"),
            Doc.each("limited(0, ?, 1) = OUTSIDE", 0, -1, 1001, MIN, MAX)));
        Doc.says("at most n (0 to 40)", Doc.join(
            Doc.rows("deeper(0, 0, 50); request(20, 0, 0); limited(0, 1, 0) = 200; limited(0, 1, 40) = 50"),
            Doc.each("limited(0, 1, ?) = OUTSIDE", -1, 41, MIN, MAX)));
    }

    private static void promise16Days() {
        // Gaps of 500 and 499 ticks; asleep each costs 5.
        Doc.says("of a DAY: the TICK at which they end, by how many TICKS a DAY has, cut",
            "deeper(0, 0, 5); request(500, 0, 0); request(999, 0, 0); end(1000)",
            "limited(0, 1000, 1) = " + (5 + 4990) + "; limited(0, 999, 1) = 10; limited(0, 501, 1) = 10",
            "limited(0, 500, 1) = " + (5 + 4990) + "; limited(0, 499, 1) = 10; limited(0, 1, 1) = 10");
        // They end at 30 and 59, both within the second day of 30 ticks, though the first began in the first.
        Doc.says("the TICK at which they end, not that at which they begin",
            "deeper(0, 0, 5); request(30, 0, 0); request(59, 0, 0); limited(0, 30, 1) = " + (5 + 290),
            "limited(0, 31, 1) = 10; limited(0, 29, 1) = 10; forget(1); request(60, 0, 0); limited(0, 30, 1) = 10");
        Doc.says("DAYS of one TICK: of each DAY is one GAP at the most",
            "power(0, 100); deeper(0, 0, 50); request(28, 0, 0); request(29, 0, 0); limited(0, 1, 1) = 100",
            "limited(0, 2, 1) = 150; limited(0, 2, 2) = 100; limited(0, 1, 0) = 2900");
        Doc.says("of those of each DAY at most n", Doc.join(
            Doc.rows("deeper(0, 0, 5)"), forty(),
            Doc.rows("limited(0, 1, 1) = 200; limited(0, 2, 1) = 200; limited(0, 3, 1) = " + (800 - 27 * 15)),
            Doc.rows("limited(0, 3, 2) = 200; limited(0, 80, 1) = " + (800 - 2 * 15)),
            Doc.rows("limited(0, 81, 1) = " + (800 - 15) + "; limited(0, 80, 39) = 200; limited(0, 80, 38) = 215")));
    }

    private static void promise16AtMostN() {
        Doc.says("at most n may be at any LEVEL above 0: none, all but one, all", Doc.join(
            Doc.rows("deeper(0, 0, 5)"), forty(),
            Doc.rows("limited(0, 1000, 0) = 800; limited(0, 1000, 1) = 785; limited(0, 1000, 39) = 215"),
            Doc.rows("limited(0, 1000, 40) = 200; least(0, 0) = 200")));
        Doc.says("cost at the least: one that is dearer asleep stays awake",
            "deeper(0, 9, 999); request(10, 0, 0); limited(0, 1000, 40) = " + (100 + 90 * 9),
            "limited(0, 1000, 0) = " + (100 + 90 * 9));
        // Gaps of 5, 10 and 15 ticks save 20, 70 and 120.
        Doc.says("cost at the least: those that save the most, each at the LEVEL that COSTS least",
            "deeper(0, 0, 30); request(5, 0, 0); request(15, 0, 0); request(30, 0, 0); limited(0, 1000, 1) = " + (300 - 120),
            "limited(0, 1000, 2) = " + (300 - 190) + "; limited(0, 1000, 3) = 90; power(0, 10); deeper(0, 2, 10)",
            "deeper(0, 1, 24); limited(0, 1000, 0) = " + (300 + 70) + "; limited(0, 1000, 1) = " + (150 + 39 + 70),
            "limited(0, 1000, 2) = " + (50 + 30 + 39 + 70) + "; limited(0, 1000, 3) = " + (20 + 30 + 39 + 70));
        Doc.says("all GAPS of a DISK: those that there are now",
            "deeper(0, 0, 5); request(10, 0, 0); request(20, 0, 0); request(90, 0, 0); limited(0, 1000, 40) = 15",
            "forget(2); limited(0, 1000, 40) = 10; forget(1); limited(0, 1000, 40) = 5; limited(0, 1000, 0) = 100",
            "forget(0); limited(0, 1000, 40) = 0; least(0, 0) = 0; limited(1, 1000, 40) = 1000");
    }

    private static void promise16ToEnd() {
        Doc.says("the one to END may, whatever n is",
            "deeper(0, 3, 999); limited(0, 1, 0) = 300; limited(0, 1000, 40) = 300; request(99, 0, 0)",
            "limited(0, 1, 0) = 993; limited(0, 1000, 0) = 993");
        Doc.says("the one to END is of no DAY: it takes none of the n",
            "deeper(0, 0, 50); request(10, 0, 0); end(50); limited(0, 1000, 1) = 50; limited(0, 1000, 0) = 100");
    }

    private static void promise17Bounds() {
        for (int kind = 0; kind < 3; kind++) {
            Doc.says("of g TICKS (1 to 1000)", Doc.join(
                Doc.rows("policy(0, " + kind + ", 500); costs(0, 1) = 10; costs(0, 1000) = 10000"),
                Doc.each("costs(0, ?) = OUTSIDE", 0, -1, 1001, MIN, MAX)));
        }
        Doc.says("costs: STATE: it is FORETOLD", "policy(0, 3, 1); costs(0, 1) = STATE; costs(0, 1000) = STATE",
            "costs(1, 1) = 10; request(5, 0, 0); costs(0, 1) = STATE; policy(0, 2, 0); costs(0, 1) = 10");
    }

    private static void promise17Costs() {
        Doc.says("the POWERS of the LEVELS that it tells for AGES 0 to g less 1, and the WAKE of the last one",
            "deeper(0, 6, 30); deeper(0, 1, 70); costs(0, 1) = 10; costs(0, 1000) = 10000; policy(0, 1, 500)",
            "costs(0, 500) = 5000; costs(0, 501) = " + (5000 + 6 + 30) + "; costs(0, 1000) = " + (5000 + 3000 + 30),
            "policy(0, 1, 1); costs(0, 1) = 10; costs(0, 2) = " + (10 + 6 + 30) + "; costs(0, 3) = " + (10 + 6 + 1 + 70),
            "costs(0, 4) = " + (10 + 6 + 2 + 70) + "; costs(0, 1000) = " + (16 + 998 + 70));
        // As little at 3 ticks: 30 and 30; from an age of 4 on at level 1.
        Doc.says("what ENVELOPE COSTS, about the AGE at which it goes down",
            "deeper(0, 0, 30); policy(0, 2, 0); costs(0, 1) = 10; costs(0, 3) = 30; costs(0, 4) = 40; costs(0, 5) = 70",
            "costs(0, 1000) = 70");
        Doc.says("by itself", "deeper(0, 0, 30); policy(0, 1, 5); request(3, 0, 0); end(4); costs(0, 6) = 80");
    }

    private static void promise18Bounds() {
        for (int kind = 0; kind < 3; kind++) {
            Doc.says("from 1 to g (1 to 1000)", Doc.join(
                Doc.rows("policy(0, " + kind + ", 1); worst(0, 1, 0) = 1; worst(0, 1, 1) = 1; worst(0, 1, 2) = 1"),
                Doc.rows("worst(0, 1000, 0) = 1; worst(0, 1000, 1) = 1; worst(0, 1000, 2) = 1"),
                Doc.each("worst(0, ?, 0) = OUTSIDE; worst(0, ?, 1) = OUTSIDE; worst(0, ?, 2) = OUTSIDE",
                    0, -1, 1001, MIN, MAX),
                Doc.each("worst(0, 1, ?) = OUTSIDE; worst(0, 1000, ?) = OUTSIDE", -1, 3, MIN, MAX)));
        }
        Doc.says("worst: STATE: it is FORETOLD", "policy(0, 3, 4); worst(0, 1, 0) = STATE; worst(0, 1000, 1) = STATE",
            "worst(0, 1, 2) = STATE; worst(1, 1, 2) = 1; policy(0, 0, 0); worst(0, 1, 2) = 1");
    }

    private static void promise18Worst() {
        Doc.says("the greatest: of 1 TICK it may be the most",
            "power(0, 100); deeper(0, 0, 1); worst(0, 1, 0) = 100; worst(0, 1, 1) = 1; worst(0, 1, 2) = 1",
            "policy(0, 1, 1); worst(0, 1000, 0) = 101; worst(0, 1000, 1) = 1; worst(0, 1000, 2) = 2",
            "worst(0, 2, 2) = 2; worst(0, 1, 2) = 1; policy(0, 0, 0); worst(0, 1000, 0) = 100000",
            "worst(0, 1000, 1) = 1; worst(0, 1000, 2) = 1000; worst(0, 999, 2) = 999");
        Doc.says("the least number of TICKS of which it is so",
            "deeper(0, 0, 40); policy(0, 1, 4); worst(0, 4, 2) = 1; worst(0, 5, 2) = 5; worst(0, 6, 2) = 5",
            "worst(0, 1000, 2) = 5; worst(0, 1000, 0) = 2; worst(0, 1000, 1) = 1");
        // From 6 ticks on level 1 costs less: 59 in place of 60, and no more than a tenth part less ever.
        Doc.says("the greatest, when it is but little more than 1",
            "deeper(0, 9, 5); worst(0, 5, 0) = 1; worst(0, 5, 1) = 1; worst(0, 5, 2) = 1; worst(0, 6, 0) = 60",
            "worst(0, 6, 1) = 59; worst(0, 6, 2) = 6; worst(0, 1000, 0) = 2000; worst(0, 1000, 1) = 1801",
            "worst(0, 1000, 2) = 1000");
        // From 523 ticks on what these fractions are compared by goes beyond what an int holds.
        Doc.says("the greatest: of the greatest POWERS and WAKE", "power(0, 100); deeper(0, 99, 999); policy(0, 1, 400)",
            "worst(0, 400, 2) = 1; worst(0, 1000, 0) = " + (40000 + 99 + 999) / 2 + "; worst(0, 1000, 1) = " + 40100 / 2,
            "worst(0, 1000, 2) = 401");
        Doc.says("LEAST (of a GAP of so many TICKS, not to END): with its WAKE",
            "deeper(0, 0, 999); end(1); worst(0, 99, 0) = 1; worst(0, 99, 2) = 1; worst(0, 100, 0) = 1000",
            "worst(0, 100, 1) = 999; worst(0, 100, 2) = 100");
    }

    private static void promise19Bounds() {
        Doc.says("UNKNOWN: the DISK, the LEVEL (0, too)", Doc.join(
            Doc.each("drawn(0, ?, 1, 0) = UNKNOWN", -1, 0, 1, 2, 3, 4, MIN, MAX),
            Doc.rows("deeper(0, 5, 5); drawn(0, 1, 1, 2) = 1; drawn(0, 2, 1, 2) = UNKNOWN"),
            Doc.rows("deeper(0, 4, 6); drawn(0, 2, 1, 2) = 1; drawn(0, 3, 1, 2) = UNKNOWN"),
            Doc.rows("deeper(0, 3, 7); drawn(0, 3, 1, 2) = 1"),
            Doc.each("drawn(0, ?, 1, 2) = UNKNOWN", -1, 0, 4, MIN, MAX),
            Doc.each("drawn(?, 1, 1, 2) = UNKNOWN; drawn(1, ?, 1, 2) = UNKNOWN", -1, 4, MIN, MAX)));
        Doc.says("drawn: of g TICKS (1 to 1000); what", Doc.join(
            Doc.rows("deeper(0, 5, 5); drawn(0, 1, 1, 0) = 10; drawn(0, 1, 1000, 0) = 5005"),
            Doc.each("drawn(0, 1, ?, 0) = OUTSIDE; drawn(0, 1, ?, 2) = OUTSIDE", 0, -1, 1001, MIN, MAX),
            Doc.each("drawn(0, 1, 1, ?) = OUTSIDE; drawn(0, 1, 1000, ?) = OUTSIDE", -1, 3, MIN, MAX)));
    }

    private static void promise19B() {
        int[][] rows = {{10, 0, 30, 3}, {10, 0, 29, 3}, {10, 0, 31, 4}, {10, 0, 1, 1}, {10, 0, 10, 1}, {10, 0, 11, 2},
            {100, 0, 999, 10}, {100, 0, 100, 1}, {100, 0, 101, 2}, {1, 0, 999, 999}, {100, 99, 999, 999},
            {100, 99, 1, 1}, {2, 0, 999, 500}, {2, 0, 998, 499}};
        for (int[] row : rows) {
            Doc.says("B being the least number such that B times (the POWER of LEVEL 0 less that of l) is no less than "
                    + "the WAKE of l",
                "power(0, " + row[0] + "); deeper(0, " + row[1] + ", " + row[2] + "); drawn(0, 1, 1, 2) = " + row[3],
                "drawn(0, 1, 1000, 2) = " + row[3]);
        }
        Doc.says("B of each LEVEL: by the POWER of LEVEL 0",
            "deeper(0, 8, 4); deeper(0, 5, 10); deeper(0, 0, 31); drawn(0, 1, 9, 2) = 2; drawn(0, 2, 9, 2) = 2",
            "drawn(0, 3, 9, 2) = 4");
    }

    private static void promise19Drawn() {
        Doc.says("if g is no more than the AGE that is drawn: at LEVEL 0 alone",
            "deeper(0, 0, 30); drawn(0, 1, 1, 0) = " + (30 + 10 + 10) + "; drawn(0, 1, 1, 1) = 3",
            "drawn(0, 1, 2, 0) = " + (30 + 40 + 20) / 3 + "; drawn(0, 1, 2, 1) = 1",
            "drawn(0, 1, 3, 0) = " + (30 + 40 + 50) / 3 + "; drawn(0, 1, 3, 1) = 1",
            "drawn(0, 1, 4, 0) = 40; drawn(0, 1, 1000, 0) = 40; drawn(0, 1, 1000, 1) = 1");
        Doc.says("from this AGE on the DISK is at LEVEL l, before at LEVEL 0",
            "deeper(0, 3, 20); drawn(0, 1, 1, 0) = " + (23 + 10 + 10) + "; drawn(0, 1, 1, 1) = 3",
            "drawn(0, 1, 2, 0) = " + (26 + 33 + 20) + "; drawn(0, 1, 2, 1) = 3",
            "drawn(0, 1, 3, 0) = " + (29 + 36 + 43) / 3 + "; drawn(0, 1, 3, 1) = 1; drawn(0, 1, 1000, 0) = " + (3020 + 7));
        Doc.says("an AGE of 0 to B less 1 is drawn: B is 1", "deeper(0, 4, 6); drawn(0, 1, 1, 2) = 1",
            "drawn(0, 1, 1, 0) = 10; drawn(0, 1, 1, 1) = 1; drawn(0, 1, 1000, 0) = 4006; drawn(0, 1, 1000, 1) = 1");
        Doc.says("an AGE of 0 to B less 1 is drawn, each alike: the greatest B",
            "power(0, 1); deeper(0, 0, 999); drawn(0, 1, 1, 0) = " + (999 + 998) + "; drawn(0, 1, 1, 1) = 999",
            "drawn(0, 1, 998, 0) = " + (998 * 999 + 998 * 997 / 2 + 998) / 999 + "; drawn(0, 1, 998, 1) = 1",
            "drawn(0, 1, 999, 0) = " + (999 + 499) + "; drawn(0, 1, 1000, 0) = " + (999 + 499) + "; drawn(0, 1, 1000, 1) = 1");
        Doc.says("DRAWN is of a LEVEL, whatever the POLICY is", "deeper(0, 0, 30); policy(0, 3, 1); drawn(0, 1, 3, 0) = 40",
            "policy(0, 1, 1); drawn(0, 1, 3, 0) = 40; policy(0, 2, 1); drawn(0, 1, 3, 0) = 40; request(1, 0, 0)",
            "end(1); drawn(0, 1, 3, 0) = 40");
    }

    /** Every fraction of some disks is as low as it goes, and is what the costs that are told make it. */
    private static void lowestTerms() {
        int[][] disks = {{10, 0, 30}, {12, 6, 60}, {100, 0, 999}, {9, 3, 18}, {2, 1, 999}};
        for (int[] disk : disks) {
            for (int kind = 0; kind < 3; kind++) {
                DiskRests x = new DiskRests();
                x.power(0, disk[0]);
                x.deeper(0, disk[1], disk[2]);
                x.policy(0, kind, 4);
                for (int g = 1; g <= 60; g++) {
                    inLowestTerms("worst, g " + g, x.worst(0, g, 0), x.worst(0, g, 1));
                    inLowestTerms("drawn, g " + g, x.drawn(0, 1, g, 0), x.drawn(0, 1, g, 1));
                    int ticks = x.worst(0, g, 2);
                    long least = Math.min(disk[0] * ticks, disk[1] * ticks + disk[2]);
                    Due.due("Fractions: worst, g " + g, (long) x.worst(0, g, 0) * least,
                            (long) x.worst(0, g, 1) * x.costs(0, ticks));
                }
            }
        }
    }

    private static void inLowestTerms(String what, int upper, int lower) {
        Due.holds("Fractions are told in lowest terms, the lower number above 0: " + what + ", " + upper + " by " + lower,
                lower > 0 && java.math.BigInteger.valueOf(upper).gcd(java.math.BigInteger.valueOf(lower)).intValue() == 1);
    }
}
