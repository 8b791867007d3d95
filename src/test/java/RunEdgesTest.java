import java.util.stream.IntStream;

/** Part 2 of the document's terms and promises 11 to 14 and 20: each sentence that names a boundary. */
public final class RunEdgesTest {
    private static final int MIN = Integer.MIN_VALUE, MAX = Integer.MAX_VALUE;
    /** A disk that is at level 1 from an age of 1 on. */
    private static final String DISK_0_SLEEPS = "deeper(0, 1, 2); policy(0, 1, 1)";
    private static final String DISK_1_SLEEPS = "deeper(1, 1, 2); policy(1, 1, 1)";
    /** Rests of 4, 6, 8, 10 and 12 ticks. */
    private static final String FIVE_RESTS =
        "request(4, 0, 0); request(10, 0, 0); request(18, 0, 0); request(28, 0, 0); request(40, 0, 0)";

    public static void main(String[] args) {
        ticksOfTheRun();
        asIfDoneAnew();
        ageAtFirst();
        byRisingNumbers();
        roomWithinATick();
        levelThenEnergyThenAge();
        sleepsByTheTickBefore();
        sleepsByAnAgeAbove0();
        wakesAndAllItsWritesLeave();
        restsThatEnd();
        writesToOneThatDoesNotSleep();
        roomOfTheJournal();
        sleepsOn();
        stayAndSteps();
        envelope();
        foretoldLevels();
        foretoldGuess();
        promise11What();
        promise11Most();
        promise12At();
        promise13Fate();
        promise14Waiting();
        promise20Count();
        Due.finish();
    }

    private static void ticksOfTheRun() {
        Doc.says("THE RUN goes through TICKS from 0 to END less 1: the least END",
            "request(0, 0, 0); request(1, 0, 0); end(1); fate(0) = 1; fate(1) = 0; disk(0, 0) = 10; disk(0, 2) = 1",
            "disk(0, 7) = 1; disk(0, 8) = 0; at(0, 0, 2) = 10; at(0, 1, 2) = OUTSIDE; count(3) = 40",
            "end(2); fate(1) = 1; disk(0, 0) = 20; disk(0, 2) = 2; at(0, 1, 2) = 20; at(0, 2, 2) = OUTSIDE");
        Doc.says("THE RUN goes through TICKS from 0 to END less 1: the greatest END",
            "request(999, 1, 1); end(999); fate(0) = 0; disk(1, 0) = 9990; disk(1, 7) = 999; disk(1, 3) = 0",
            "end(1000); fate(0) = 3; disk(1, 0) = 10000; disk(1, 7) = 1; disk(1, 3) = 1; disk(1, 6) = 1",
            "at(1, 998, 1) = 998; at(1, 999, 1) = 0; at(1, 1000, 1) = OUTSIDE; count(3) = 40000");
        Doc.says("a REQUEST at the last TICK wakes; one at END does nothing",
            DISK_0_SLEEPS, "request(50, 0, 0); end(51); fate(0) = 2; disk(0, 1) = 1; disk(0, 0) = " + (10 + 49 + 2 + 10),
            "end(50); fate(0) = 0; disk(0, 1) = 0; disk(0, 0) = " + (10 + 49));
    }

    private static void asIfDoneAnew() {
        Doc.says("it is as if it were done anew whenever it is asked for",
            DISK_0_SLEEPS, "journal(2); request(5, 0, 1); request(9, 0, 0); request(20, 0, 1); disk(0, 0) = 120",
            "disk(0, 0) = 120; at(0, 0, 2) = 10; disk(0, 0) = 120; at(0, 50, 2) = 71; at(0, 8, 2) = 18; at(0, 9, 2) = 30",
            "waiting(0) = 2; waiting(0) = 2; count(4) = 1; count(5) = 1; count(5) = 1; fate(0) = 4; at(0, 6, 1) = 6",
            "fate(0) = 4; fate(1) = 2; at(0, 3, 1) = 3; fate(2) = 5; at(0, 2, 0) = 1; waiting(0) = 2; disk(0, 4) = 2",
            "at(0, 4, 0) = 1; disk(0, 4) = 2; at(0, 4, 0) = 1; disk(0, 1) = 1; at(0, 4, 0) = 1; disk(0, 6) = 1",
            "at(0, 4, 0) = 1; disk(0, 9) = 9; at(0, 4, 0) = 1; count(5) = 1; at(0, 4, 0) = 1; disk(0, 7) = 91");
        Doc.says("it is as if it were done anew whenever it is asked for: each call that changes what it is of",
            "end(10); policy(0, 1, 2); disk(0, 0) = 100; deeper(0, 5, 7); disk(0, 0) = 60; deeper(0, 1, 9); disk(0, 0) = 36",
            "policy(0, 1, 1); disk(0, 0) = 23; image(0); disk(0, 0) = 23; request(5, 0, 1); disk(0, 0) = " + (18 + 9 + 18),
            "journal(1); disk(0, 0) = 23; waiting(0) = 0; end(12); disk(0, 0) = 25; end(4); disk(0, 0) = 17; waiting(0) = NONE",
            "end(12); waiting(0) = 0; forget(0); waiting(0) = NONE; request(5, 0, 0); disk(0, 0) = " + (18 + 9 + 20),
            "forget(0); disk(0, 0) = 25; restore(0); disk(0, 0) = 23; power(0, 3); disk(0, 0) = 30; count(3) = 330");
    }

    private static void ageAtFirst() {
        for (int d = 0; d < 4; d++) {
            Doc.says("Each DISK has an AGE, 0 at first", Doc.each("deeper(?, 0, 1); at(?, 0, 1) = 0; at(?, 0, 0) = 0; "
                + "policy(?, 1, 1); at(?, 0, 1) = 0; at(?, 0, 0) = 0; policy(?, 2, 0); at(?, 0, 1) = 0; at(?, 0, 0) = 0; "
                + "policy(?, 3, 1); at(?, 0, 1) = 0; at(?, 0, 0) = 0", d));
        }
    }

    private static void byRisingNumbers() {
        Doc.says("by rising numbers: a WRITE, then a READ",
            DISK_0_SLEEPS, "journal(8); request(5, 0, 1); request(5, 0, 0)",
            "fate(0) = 4; fate(1) = 2; count(4) = 0; count(5) = 1; disk(0, 4) = 1; disk(0, 3) = 0");
        Doc.says("by rising numbers: a READ, then a WRITE",
            DISK_0_SLEEPS, "journal(8); request(5, 0, 0); request(5, 0, 1)",
            "fate(0) = 2; fate(1) = 3; count(4) = 0; count(5) = 0; disk(0, 4) = 0; disk(0, 3) = 1");
        Doc.says("by rising numbers, of two DISKS",
            DISK_0_SLEEPS, DISK_1_SLEEPS, "journal(1); request(5, 1, 1); request(5, 0, 1)",
            "fate(0) = 5; fate(1) = 6; waiting(0) = 0; forget(0); fate(0) = 5; request(5, 1, 1); fate(0) = 5; fate(1) = 6");
        Doc.says("TICKS go before numbers", DISK_0_SLEEPS, "journal(1); request(9, 0, 1); request(8, 0, 1); request(7, 0, 0)",
            "fate(2) = 2; fate(1) = 3; fate(0) = 3; forget(2); fate(1) = 4; fate(0) = 6; journal(2); fate(1) = 5; fate(0) = 5",
            "waiting(0) = 1; waiting(1) = 0; waiting(2) = NONE");
    }

    private static void roomWithinATick() {
        Doc.says("WRITES leave the JOURNAL: there is ROOM for the next of this TICK",
            DISK_0_SLEEPS, DISK_1_SLEEPS, "journal(1); request(4, 0, 1); request(5, 0, 0); request(5, 1, 1)",
            "fate(0) = 4; fate(1) = 2; fate(2) = 5; waiting(0) = 2; count(4) = 1; count(5) = 1");
        Doc.says("there is none for the one ahead of it",
            DISK_0_SLEEPS, DISK_1_SLEEPS, "journal(1); request(4, 0, 1); request(5, 1, 1); request(5, 0, 0)",
            "fate(0) = 4; fate(1) = 6; fate(2) = 2; waiting(0) = NONE; count(4) = 0; count(5) = 1");
    }

    private static void levelThenEnergyThenAge() {
        Doc.says("at the LEVEL that its POLICY tells for its AGE, its ENERGY is greater by the POWER of this LEVEL, "
                + "and then its AGE is one more",
            "deeper(0, 4, 20); policy(0, 1, 2); end(3); at(0, 0, 0) = 0; at(0, 0, 1) = 0; at(0, 0, 2) = 10",
            "at(0, 1, 0) = 0; at(0, 1, 1) = 1; at(0, 1, 2) = 20; at(0, 2, 0) = 1; at(0, 2, 1) = 2; at(0, 2, 2) = 24",
            "disk(0, 7) = 3; disk(0, 0) = 24; disk(0, 8) = 1");
        Doc.says("REQUESTS of this TICK are done first: the AGE of this TICK is 0",
            "deeper(0, 4, 20); policy(0, 1, 2); request(2, 0, 0); at(0, 1, 1) = 1; at(0, 2, 1) = 0; at(0, 2, 0) = 0",
            "at(0, 2, 2) = 30; at(0, 3, 1) = 1; at(0, 4, 0) = 1");
    }

    private static void sleepsByTheTickBefore() {
        Doc.says("the LEVEL at which it was in the TICK before is above 0: it costs the WAKE of that LEVEL",
            "deeper(0, 4, 20); deeper(0, 1, 50); policy(0, 1, 3)",
            "request(3, 0, 0); fate(0) = 1; disk(0, 1) = 0; at(0, 2, 2) = 30; at(0, 3, 2) = 40; forget(0)",
            "request(4, 0, 0); fate(0) = 2; disk(0, 1) = 1; at(0, 3, 2) = 34; at(0, 4, 2) = 64; forget(0)",
            "request(6, 0, 0); fate(0) = 2; disk(0, 1) = 1; at(0, 5, 2) = 42; at(0, 6, 2) = 72; forget(0)",
            "request(7, 0, 0); fate(0) = 2; disk(0, 1) = 1; at(0, 6, 2) = 43; at(0, 7, 2) = 103");
        Doc.says("the LEVEL at which it was in the TICK before, when it is FORETOLD: that of an AGE of 0 too",
            "deeper(0, 1, 12); policy(0, 3, 1); request(10, 0, 0); request(11, 0, 0); fate(0) = 1; at(0, 10, 0) = 1",
            "at(0, 10, 1) = 0; at(0, 10, 2) = 101; fate(1) = 2; at(0, 11, 0) = 0; at(0, 11, 2) = 123; disk(0, 1) = 1");
        Doc.says("one that STAYS does not SLEEP, nor does one without deeper LEVELS",
            "deeper(0, 0, 1); request(99, 0, 0); fate(0) = 1; policy(1, 1, 1); request(99, 1, 0); fate(1) = 1");
    }

    private static void sleepsByAnAgeAbove0() {
        Doc.says("A DISK SLEEPS if its AGE is above 0: the second REQUEST of a TICK finds it awake",
            "deeper(0, 4, 20); policy(0, 1, 3); journal(8); request(4, 0, 0); request(4, 0, 0); request(4, 0, 1)",
            "fate(0) = 2; fate(1) = 1; fate(2) = 3; at(0, 3, 0) = 1; at(0, 4, 2) = 64",
            "disk(0, 1) = 1; disk(0, 2) = 2; disk(0, 3) = 1; disk(0, 4) = 0; disk(0, 6) = 1; disk(0, 9) = 4");
        Doc.says("A DISK SLEEPS if its AGE is above 0: not at TICK 0",
            DISK_0_SLEEPS, "journal(8); request(0, 0, 0); request(0, 0, 1); fate(0) = 1; fate(1) = 3",
            "disk(0, 1) = 0; disk(0, 4) = 0; disk(0, 6) = 0; disk(0, 9) = NONE; disk(0, 7) = 100");
    }

    private static void wakesAndAllItsWritesLeave() {
        String five = "request(5, 0, 1); request(6, 1, 1); request(7, 0, 1); request(8, 1, 1); request(9, 0, 1)";
        Doc.says("all WRITES of this DISK in the JOURNAL leave it, and none of another one",
            DISK_0_SLEEPS, DISK_1_SLEEPS, "journal(5)", five, "request(10, 0, 0)",
            "fate(0) = 4; fate(1) = 5; fate(2) = 4; fate(3) = 5; fate(4) = 4; fate(5) = 2",
            "waiting(0) = 1; waiting(1) = 3; waiting(2) = NONE; count(4) = 2; count(5) = 5",
            "disk(0, 4) = 3; disk(0, 5) = 0; disk(1, 4) = 2; disk(1, 5) = 2; disk(0, 1) = 1; disk(1, 1) = 0");
        Doc.says("the DISK WAKES for a WRITE: all leave, and that one does not come in",
            DISK_0_SLEEPS, DISK_1_SLEEPS, "journal(5)", five, "request(10, 1, 1)",
            "fate(0) = 5; fate(1) = 4; fate(2) = 5; fate(3) = 4; fate(4) = 5; fate(5) = 6",
            "waiting(0) = 0; waiting(1) = 2; waiting(2) = 4; waiting(3) = NONE; disk(1, 3) = 1; disk(1, 4) = 2");
        Doc.says("a READ of one that has no WRITES in the JOURNAL takes none out",
            DISK_0_SLEEPS, DISK_1_SLEEPS, "journal(5); request(5, 0, 1); request(6, 1, 0)",
            "fate(0) = 5; fate(1) = 2; waiting(0) = 0; disk(0, 5) = 1");
    }

    private static void restsThatEnd() {
        Doc.says("BUSY: if its AGE is above 0, a REST of so many TICKS has ended; the AGE is 0",
            "request(0, 0, 0); request(0, 0, 1); disk(0, 6) = 0; disk(0, 9) = NONE; at(0, 0, 1) = 0",
            "request(1, 0, 0); disk(0, 6) = 1; disk(0, 9) = 1; request(1, 0, 1); disk(0, 6) = 1; at(0, 1, 1) = 0",
            "request(3, 0, 1); disk(0, 6) = 2; disk(0, 9) = 1; at(0, 2, 1) = 1; at(0, 3, 1) = 0; disk(0, 7) = 97");
        Doc.says("a REST of so many TICKS has ended: the longest", "end(1000); request(999, 0, 0); disk(0, 6) = 1",
            "disk(0, 9) = 999; policy(0, 3, 1); disk(0, 9) = 999");
    }

    private static void writesToOneThatDoesNotSleep() {
        Doc.says("A WRITE to one that does not SLEEP: it is BUSY, though the JOURNAL has ROOM",
            "journal(8); request(5, 0, 1); fate(0) = 3; disk(0, 3) = 1; disk(0, 4) = 0; disk(0, 6) = 1; at(0, 5, 1) = 0",
            "count(4) = 0; count(5) = 0; disk(0, 1) = 0; disk(0, 0) = 1000");
        Doc.says("A WRITE to one that does not SLEEP: an AGE at which the first deeper LEVEL is told only now",
            DISK_0_SLEEPS, "journal(8); request(1, 0, 1); fate(0) = 3; at(0, 1, 0) = 0; forget(0)",
            "request(2, 0, 1); fate(0) = 5; at(0, 1, 0) = 1; at(0, 2, 1) = 2");
    }

    private static void roomOfTheJournal() {
        Doc.says("if there are fewer in the JOURNAL than it has ROOM for: no ROOM at all",
            DISK_0_SLEEPS, "request(5, 0, 1); fate(0) = 6; waiting(0) = NONE; count(5) = 0; disk(0, 1) = 1; disk(0, 3) = 1",
            "at(0, 5, 1) = 0; at(0, 4, 2) = 14; at(0, 5, 2) = 26");
        for (int room = 1; room <= 8; room++) {
            String[] fits = IntStream.range(0, room).mapToObj(i -> "request(" + (5 + i) + ", 0, 1)").toArray(String[]::new);
            int[] numbers = IntStream.range(0, room).toArray();
            Doc.says("if there are fewer in the JOURNAL than it has ROOM for: as many as there may be, and one more",
                Doc.join(Doc.rows(DISK_0_SLEEPS, DISK_1_SLEEPS, "journal(" + room + ")"), fits,
                    Doc.each("fate(?) = 5; waiting(?) = ?", numbers),
                    Doc.each("waiting(?) = NONE; count(4) = ?; count(5) = ?; disk(0, 4) = ?; disk(0, 5) = ?", room),
                    Doc.each("request(50, 1, 1); fate(?) = 6; count(4) = ?; count(5) = ?; disk(0, 5) = ?", room),
                    Doc.rows("disk(0, 1) = 0; disk(1, 1) = 1; disk(1, 4) = 0; request(60, 0, 1)"),
                    Doc.rows("fate(" + (room + 1) + ") = 6; count(4) = 0; waiting(0) = NONE; disk(0, 1) = 1"),
                    Doc.each("fate(?) = 4", numbers),
                    Doc.each("count(5) = ?; disk(0, 4) = ?; disk(0, 5) = 0", room)));
        }
    }

    private static void sleepsOn() {
        Doc.says("it comes to its end (the DISK sleeps on, its AGE stays)",
            DISK_0_SLEEPS, "journal(1); request(5, 0, 1); at(0, 5, 1) = 5; at(0, 5, 0) = 1; at(0, 6, 1) = 6",
            "disk(0, 6) = 0; disk(0, 7) = 100; disk(0, 1) = 0; disk(0, 3) = 0; disk(0, 0) = 109; disk(0, 9) = NONE",
            "request(8, 0, 0); disk(0, 6) = 1; disk(0, 9) = 8; disk(0, 1) = 1; at(0, 8, 2) = " + (10 + 7 + 2 + 10));
        Doc.says("else the DISK WAKES, and is BUSY",
            DISK_0_SLEEPS, "request(5, 0, 1); at(0, 5, 1) = 0; at(0, 5, 0) = 0; disk(0, 6) = 1; disk(0, 9) = 5",
            "disk(0, 1) = 1; disk(0, 3) = 1; disk(0, 4) = 0; disk(0, 0) = " + (10 + 4 + 2 + 10 + 94));
    }

    private static void stayAndSteps() {
        String levels = "deeper(0, 9, 1); deeper(0, 8, 2); deeper(0, 7, 3); end(1000)";
        Doc.says("0 STAY: 0", levels, "at(0, 0, 0) = 0; at(0, 1, 0) = 0; at(0, 999, 0) = 0");
        Doc.says("1 STEPS of n: a by n, cut, but no more than DEEPEST", levels,
            "policy(0, 1, 1); at(0, 0, 0) = 0; at(0, 1, 0) = 1; at(0, 2, 0) = 2; at(0, 3, 0) = 3; at(0, 4, 0) = 3",
            "at(0, 999, 0) = 3; policy(0, 1, 333); at(0, 332, 0) = 0; at(0, 333, 0) = 1; at(0, 665, 0) = 1",
            "at(0, 666, 0) = 2; at(0, 998, 0) = 2; at(0, 999, 0) = 3; policy(0, 1, 334); at(0, 999, 0) = 2",
            "policy(0, 1, 500); at(0, 499, 0) = 0; at(0, 500, 0) = 1; at(0, 999, 0) = 1",
            "policy(0, 1, 2); power(0, 10); at(0, 999, 0) = 0; deeper(0, 9, 1); at(0, 1, 0) = 0; at(0, 2, 0) = 1",
            "at(0, 3, 0) = 1; at(0, 4, 0) = 1; at(0, 999, 0) = 1");
    }

    private static void envelope() {
        Doc.says("2 ENVELOPE: of as little the least LEVEL",
            "deeper(0, 7, 12); deeper(0, 4, 24); deeper(0, 1, 36); policy(0, 2, 0)",
            "at(0, 3, 0) = 0; at(0, 4, 0) = 0; at(0, 5, 0) = 3; at(0, 99, 0) = 3");
        Doc.says("2 ENVELOPE: of as little the least LEVEL, two at a time",
            "deeper(0, 6, 12); deeper(0, 3, 24); deeper(0, 1, 50); policy(0, 2, 0); at(0, 3, 0) = 0; at(0, 4, 0) = 1",
            "at(0, 5, 0) = 2; at(0, 13, 0) = 2; at(0, 14, 0) = 3");
        Doc.says("2 ENVELOPE: a LEVEL that is never the least is never told",
            "deeper(0, 9, 90); deeper(0, 0, 100); policy(0, 2, 0); at(0, 10, 0) = 0; at(0, 11, 0) = 2; at(0, 99, 0) = 2");
        Doc.says("2 ENVELOPE: the greatest AGE", "deeper(0, 9, 999); deeper(1, 9, 998); end(1000)",
            "policy(0, 2, 0); policy(1, 2, 0); at(0, 999, 0) = 0; at(1, 998, 0) = 0; at(1, 999, 0) = 1");
        Doc.says("2 ENVELOPE: there are no deeper LEVELS", "policy(0, 2, 0); end(1000); at(0, 999, 0) = 0");
    }

    private static void foretoldLevels() {
        Doc.says("3 FORETOLD: as long as no REST has ended, 0",
            "deeper(0, 0, 1); policy(0, 3, 4); end(1000); at(0, 0, 0) = 0; at(0, 999, 0) = 0; disk(0, 8) = 0",
            "request(0, 0, 0); at(0, 0, 0) = 0; at(0, 999, 0) = 0; request(1, 0, 0); at(0, 0, 0) = 0; at(0, 1, 0) = 1",
            "at(0, 2, 0) = 1; at(0, 999, 0) = 1");
        Doc.says("3 FORETOLD: of as little the least LEVEL; the mean, cut",
            "deeper(0, 1, 36); policy(0, 3, 2); request(4, 0, 0); request(9, 0, 0); disk(0, 9) = 4; at(0, 4, 0) = 0",
            "at(0, 9, 0) = 0; at(0, 99, 0) = 0; policy(0, 3, 1); disk(0, 9) = 5; at(0, 8, 0) = 0; at(0, 9, 0) = 1",
            "at(0, 99, 0) = 1; request(99, 0, 0); disk(0, 9) = 90; policy(0, 3, 3); disk(0, 9) = 33");
        Doc.says("3 FORETOLD: of as little the least LEVEL, of four",
            "deeper(0, 7, 12); deeper(0, 4, 24); deeper(0, 1, 36); policy(0, 3, 1); request(4, 0, 0); at(0, 4, 0) = 0",
            "request(9, 0, 0); at(0, 9, 0) = 3");
    }

    private static void foretoldGuess() {
        int[] ends = {5, 11, 19, 29, 41};
        int[][] guesses = {{4, 6, 8, 10, 12}, {4, 5, 7, 9, 11}, {4, 5, 6, 8, 10}, {4, 5, 6, 7, 9}};
        for (int n = 1; n <= 4; n++) {
            for (int k = 0; k < ends.length; k++) {
                Doc.says("the last n RESTS that have ended (of all, if they are fewer)", FIVE_RESTS,
                    "policy(0, 3, " + n + "); end(" + ends[k] + "); disk(0, 9) = " + guesses[n - 1][k],
                    "disk(0, 6) = " + (k + 1));
            }
        }
        Doc.says("NONE: no REST has ended", FIVE_RESTS, "policy(0, 3, 1); end(4); disk(0, 9) = NONE; disk(0, 6) = 0",
            "end(5); disk(0, 9) = 4");
        Doc.says("n being that of its POLICY, 4 if that is not FORETOLD", FIVE_RESTS,
            "disk(0, 9) = 9; policy(0, 0, 1); disk(0, 9) = 9; policy(0, 1, 1); disk(0, 9) = 9; policy(0, 1, 500)",
            "disk(0, 9) = 9; policy(0, 2, 2); disk(0, 9) = 9; policy(0, 3, 1); disk(0, 9) = 12; policy(0, 2, 1)",
            "disk(0, 9) = 9; end(19); disk(0, 9) = 6; end(4); disk(0, 9) = NONE");
    }

    private static void promise11What() {
        Doc.says("disk: OUTSIDE", Doc.join(Doc.rows(FIVE_RESTS), Doc.each("disk(0, ?) = OUTSIDE", -1, 10, MIN, MAX)));
        for (int d = 0; d < 4; d++) {
            Doc.says("disk: nothing was asked of it", Doc.each("disk(?, 0) = 1000; disk(?, 1) = 0; disk(?, 2) = 0; "
                + "disk(?, 3) = 0; disk(?, 4) = 0; disk(?, 5) = 0; disk(?, 6) = 0; disk(?, 7) = 100; disk(?, 8) = 0; "
                + "disk(?, 9) = NONE", d));
        }
    }

    /** Forty requests of one kind, at ticks 2, 4, .. 80. */
    private static String[] forty(int kind) {
        return IntStream.rangeClosed(1, 40).mapToObj(i -> "request(" + 2 * i + ", 0, " + kind + ")").toArray(String[]::new);
    }

    private static void promise11Most() {
        Doc.says("disk: 40 READS, each of which wakes it", Doc.join(Doc.rows(DISK_0_SLEEPS), forty(0),
            Doc.rows("disk(0, 0) = " + (40 * (10 + 1 + 2) + 10 + 19) + "; disk(0, 1) = 40; disk(0, 2) = 40; disk(0, 3) = 0"),
            Doc.rows("disk(0, 6) = 40; disk(0, 7) = 20; disk(0, 8) = 1; disk(0, 9) = 2; fate(0) = 2; fate(39) = 2")));
        Doc.says("disk: 40 WRITES, each of which makes it BUSY", Doc.join(forty(1),
            Doc.rows("disk(0, 0) = 1000; disk(0, 1) = 0; disk(0, 2) = 0; disk(0, 3) = 40; disk(0, 4) = 0; disk(0, 6) = 40"),
            Doc.rows("fate(0) = 3; fate(39) = 3")));
        Doc.says("disk: 40 WRITES, each ninth of which wakes it", Doc.join(Doc.rows(DISK_0_SLEEPS, "journal(8)"), forty(1),
            Doc.rows("disk(0, 1) = 4; disk(0, 3) = 4; disk(0, 4) = 36; disk(0, 5) = 4; disk(0, 6) = 4; disk(0, 7) = 28"),
            Doc.rows("disk(0, 9) = 18; count(4) = 4; count(5) = 8; waiting(0) = 36; waiting(3) = 39; waiting(4) = NONE"),
            Doc.rows("fate(0) = 4; fate(7) = 4; fate(8) = 6; fate(34) = 4; fate(35) = 6; fate(36) = 5; fate(39) = 5")));
    }

    private static void promise12At() {
        for (int end : new int[] {1, 2, 100, 999, 1000}) {
            Doc.says("OUTSIDE: the TICK (0 to END less 1)", Doc.join(
                Doc.rows("end(" + end + "); at(0, 0, 2) = 10; at(3, 0, 1) = 0"),
                Doc.each("at(0, ?, 1) = ?; at(3, ?, 0) = 0", end - 1),
                Doc.each("at(0, ?, 0) = OUTSIDE; at(0, ?, 1) = OUTSIDE; at(0, ?, 2) = OUTSIDE", -1, end, end + 1, MIN, MAX)));
        }
        Doc.says("at: OUTSIDE: what", Doc.each("at(0, 0, ?) = OUTSIDE; at(0, 99, ?) = OUTSIDE", -1, 3, MIN, MAX));
        Doc.says("0 to END less 1, when END is another one", "at(0, 99, 0) = 0; end(50); at(0, 99, 0) = OUTSIDE",
            "at(0, 50, 0) = OUTSIDE; at(0, 49, 2) = 500; end(51); at(0, 50, 2) = 510");
    }

    private static void promise13Fate() {
        Doc.says("fate: UNKNOWN", Doc.join(Doc.each("fate(?) = UNKNOWN", 0, -1, MIN, MAX),
            Doc.rows("request(5, 0, 0); request(6, 0, 1); fate(0) = 1; fate(1) = 3"),
            Doc.each("fate(?) = UNKNOWN", -1, 2, 39, 40, MIN, MAX)));
        Doc.says("0 nothing (its TICK is not less than END)",
            DISK_0_SLEEPS, "journal(1); request(20, 0, 1); request(20, 0, 0)",
            "end(21); fate(0) = 4; fate(1) = 2; end(20); fate(0) = 0; fate(1) = 0; end(1); fate(0) = 0; fate(1) = 0",
            "end(1000); fate(0) = 4; fate(1) = 2");
        Doc.says("4 it comes into the JOURNAL and leaves it, 5 it comes into the JOURNAL and stays there",
            DISK_0_SLEEPS, "journal(1); request(20, 0, 1); fate(0) = 5; request(99, 0, 0); fate(0) = 4; end(99); fate(0) = 5",
            "end(100); fate(0) = 4; forget(1); fate(0) = 5; request(20, 0, 0); fate(0) = 4");
        Doc.says("3 the DISK does not SLEEP, 6 the DISK WAKES",
            DISK_0_SLEEPS, "request(1, 0, 1); fate(0) = 3; request(3, 0, 1); fate(1) = 6; request(3, 0, 1); fate(2) = 3",
            "request(4, 0, 0); fate(3) = 1; request(6, 0, 0); fate(4) = 2");
    }

    private static void promise14Waiting() {
        Doc.says("NONE: there is none such (i below 0, too)", Doc.join(
            Doc.each("waiting(?) = NONE", -1, 0, 1, 7, 8, MIN, MAX),
            Doc.rows(DISK_0_SLEEPS, "journal(8); request(9, 0, 1); waiting(0) = 0"),
            Doc.each("waiting(?) = NONE", -1, 1, 7, 8, MIN, MAX),
            Doc.each("request(9, 0, 1); waiting(?) = ?", 1, 2, 3, 4, 5, 6, 7),
            Doc.each("waiting(?) = NONE", -1, 8, 9, MIN, MAX),
            Doc.rows("end(9); waiting(0) = NONE; end(10); waiting(0) = 0; waiting(7) = 7; journal(0); waiting(0) = NONE")));
    }

    private static void promise20Count() {
        Doc.says("count: OUTSIDE", Doc.each("count(?) = OUTSIDE", -1, 7, MIN, MAX));
        Doc.says("count: none at all", "end(1); count(0) = 0; count(1) = 1; count(2) = 0; count(3) = 40; count(4) = 0",
            "count(5) = 0; count(6) = 0");
        Doc.says("3 the ENERGY of all DISKS: the most", "power(0, 100); power(1, 100); power(2, 100); power(3, 100)",
            "end(1000); count(3) = 400000; disk(3, 0) = 100000");
        Doc.says("5 how many there were at the most: not at the end alone",
            DISK_0_SLEEPS, "journal(8); request(5, 0, 1); request(6, 0, 1); request(7, 0, 0); request(20, 0, 1)",
            "count(4) = 1; count(5) = 2; end(7); count(4) = 2; count(5) = 2; end(6); count(4) = 1; count(5) = 1",
            "end(5); count(4) = 0; count(5) = 0");
        Doc.says("6 which IMAGES are kept (1 the first, 2 the second, added)",
            "count(6) = 0; image(1); count(6) = 2; image(1); count(6) = 2; image(0); count(6) = 3; restore(1); count(6) = 3");
    }
}
