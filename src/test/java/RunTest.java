/** Promises 11 to 14 and 20: what is told of the run. */
public final class RunTest {
    private static final int MIN = Integer.MIN_VALUE, MAX = Integer.MAX_VALUE;

    public static void main(String[] args) {
        promise11Disk();
        promise11Guess();
        promise12At();
        promise13Fate();
        promise14Waiting();
        promise20Count();
        policiesTellLevels();
        sleepsAtOnceIfForetold();
        requestsOfOneTickByNumber();
        journalIsSharedByDisks();
        theRunIsAsIfDoneAnew();
        Due.finish();
    }

    private static void dueOfDisk(String when, DiskRests x, int d, int... want) {
        for (int what = 0; what < want.length; what++) {
            Due.due(when + " disk(" + d + ", " + what + ")", x.disk(d, what), want[what]);
        }
    }

    private static void promise11Disk() {
        DiskRests x = new DiskRests();
        for (int wrong : new int[] {-1, 4, MIN, MAX}) {
            Due.due("11 disk(wrong, 10)", x.disk(wrong, 10), DiskRests.UNKNOWN);
        }
        for (int wrong : new int[] {-1, 10, MIN, MAX}) {
            Due.due("11 disk(0, wrong)", x.disk(0, wrong), DiskRests.OUTSIDE);
        }
        dueOfDisk("11 new", x, 0, 1000, 0, 0, 0, 0, 0, 0, 100, 0, DiskRests.NONE);
        x.deeper(0, 4, 15);
        x.deeper(0, 1, 70);
        x.policy(0, 1, 4);
        x.journal(1);
        x.end(30);
        x.request(3, 0, 1);   // awake: busy, a rest of 3
        x.request(9, 0, 1);   // age 6, was at level 1: into the journal
        x.request(12, 0, 1);  // age 9, was at level 2, no room: wakes, a rest of 9
        x.request(12, 0, 0);  // awake by now, age 0: no rest
        x.request(25, 0, 1);  // age 13, at level 2: into the journal, stays
        x.request(30, 0, 0);  // not before the end
        int before12 = 3 * 10 + 4 * 10 + 4 * 4 + 1 * 1;
        int from12 = 70 + 4 * 10 + 4 * 4 + 10 * 1;
        dueOfDisk("11", x, 0, before12 + from12, 1, 1, 2, 2, 1, 2, 18, 2, 6);
        x.at(0, 0, 0);
        dueOfDisk("11 after an earlier tick", x, 0, before12 + from12, 1, 1, 2, 2, 1, 2, 18, 2, 6);
        dueOfDisk("11 another disk", x, 1, 300, 0, 0, 0, 0, 0, 0, 30, 0, DiskRests.NONE);
    }

    private static void promise11Guess() {
        DiskRests x = new DiskRests();
        int[] ticks = {0, 20, 21, 26, 34, 37};  // rests: 20, 1, 5, 8, 3
        for (int tick : ticks) {
            x.request(tick, 2, 0);
        }
        Due.due("11 guess, STAY", x.disk(2, 9), (1 + 5 + 8 + 3) / 4);
        Due.due("11 rests", x.disk(2, 6), 5);
        int[] want = {3, 11 / 2, 16 / 3, 17 / 4};
        for (int n = 1; n <= 4; n++) {
            x.policy(2, 3, n);
            Due.due("11 guess by " + n, x.disk(2, 9), want[n - 1]);
        }
        x.policy(2, 1, 1);
        Due.due("11 guess, STEPS of 1", x.disk(2, 9), 4);
        x.policy(2, 2, 1);
        Due.due("11 guess, ENVELOPE", x.disk(2, 9), 4);
        x.end(27);
        Due.due("11 guess of fewer than 4", x.disk(2, 9), 26 / 3);
        x.end(20);
        Due.due("11 no rest from tick 0 to 0", x.disk(2, 9), DiskRests.NONE);
    }

    private static void promise12At() {
        DiskRests x = new DiskRests();
        x.end(12);
        x.deeper(1, 3, 8);
        x.policy(1, 1, 2);
        x.request(6, 1, 0);
        int[][] rows = {{0, 0, 10}, {0, 1, 20}, {1, 2, 23}, {1, 3, 26}, {1, 4, 29}, {1, 5, 32},
            {0, 0, 50}, {0, 1, 60}, {1, 2, 63}, {1, 3, 66}, {1, 4, 69}, {1, 5, 72}};
        for (int tick = 11; tick >= 0; tick--) {
            for (int what = 0; what < 3; what++) {
                Due.due("12 at(1, " + tick + ", " + what + ")", x.at(1, tick, what), rows[tick][what]);
            }
        }
        for (int wrong : new int[] {-1, 4, MIN, MAX}) {
            Due.due("12 at(wrong, 12, 3)", x.at(wrong, 12, 3), DiskRests.UNKNOWN);
        }
        for (int wrong : new int[] {-1, 12, 99, MIN, MAX}) {
            Due.due("12 at(1, wrong, 0)", x.at(1, wrong, 0), DiskRests.OUTSIDE);
        }
        for (int wrong : new int[] {-1, 3, MIN, MAX}) {
            Due.due("12 at(1, 0, wrong)", x.at(1, 0, wrong), DiskRests.OUTSIDE);
        }
        x.end(1000);
        Due.due("12 at(1, 999, 1)", x.at(1, 999, 1), 993);
        Due.due("12 at(1, 999, 2)", x.at(1, 999, 2), 72 + 988 * 3);
        Due.due("12 at(1, 1000, 1)", x.at(1, 1000, 1), DiskRests.OUTSIDE);
    }

    private static void dueFates(String when, DiskRests x, int... want) {
        for (int i = 0; i < want.length; i++) {
            Due.due(when + " fate(" + i + ")", x.fate(i), want[i]);
        }
    }

    private static void promise13Fate() {
        DiskRests x = new DiskRests();
        x.deeper(0, 1, 2);
        x.policy(0, 1, 3);
        x.journal(1);
        x.request(2, 0, 0);
        x.request(10, 0, 0);
        x.request(11, 0, 1);
        x.request(20, 0, 1);
        x.request(21, 0, 1);
        x.request(40, 0, 1);
        x.request(50, 0, 0);
        dueFates("13", x, 1, 2, 3, 4, 6, 4, 2);
        x.forget(6);
        dueFates("13 without the last read", x, 1, 2, 3, 4, 6, 5);
        x.end(40);
        dueFates("13 end at its tick", x, 1, 2, 3, 4, 6, 0);
        x.end(41);
        dueFates("13 end behind its tick", x, 1, 2, 3, 4, 6, 5);
        x.journal(0);
        dueFates("13 no room", x, 1, 2, 3, 6, 3, 6);
        DiskRests one = new DiskRests();
        one.request(40, 0, 0);
        Due.due("13 fate(0)", one.fate(0), 1);
        one.end(40);
        Due.due("13 fate(0), an earlier end", one.fate(0), 0);
        for (int wrong : new int[] {-1, 6, 40, MIN, MAX}) {
            Due.due("13 fate(wrong)", x.fate(wrong), DiskRests.UNKNOWN);
        }
    }

    private static void promise14Waiting() {
        DiskRests x = new DiskRests();
        x.journal(8);
        for (int d = 0; d < 4; d++) {
            x.deeper(d, 1, 2);
            x.policy(d, 1, 1);
        }
        for (int i = 0; i < 9; i++) {
            x.request(50 - i, i % 3, 1);
        }
        // Number 0, of disk 0, comes last, finds no room and takes those of disk 0 out.
        int[] left = {8, 7, 5, 4, 2, 1};
        for (int i = 0; i < left.length; i++) {
            Due.due("14 waiting(" + i + ")", x.waiting(i), left[i]);
        }
        for (int none : new int[] {-1, 6, 7, 8, MIN, MAX}) {
            Due.due("14 waiting(none)", x.waiting(none), DiskRests.NONE);
        }
        x.end(50);
        for (int i = 0; i < 8; i++) {
            Due.due("14 full, waiting(" + i + ")", x.waiting(i), 8 - i);
        }
        Due.due("14 full, waiting(8)", x.waiting(8), DiskRests.NONE);
    }

    private static void promise20Count() {
        DiskRests x = new DiskRests();
        x.journal(3);
        x.deeper(0, 1, 2);
        x.deeper(3, 2, 4);
        x.policy(0, 1, 1);
        x.policy(3, 1, 1);
        x.request(5, 0, 1);
        x.request(6, 3, 1);
        x.request(7, 3, 1);
        x.request(8, 3, 0);
        x.end(10);
        Due.due("20 count(0)", x.count(0), 4);
        Due.due("20 count(1)", x.count(1), 10);
        Due.due("20 count(2)", x.count(2), 3);
        Due.due("20 count(3)", x.count(3), (10 + 9) + 100 + 100 + (10 + 7 * 2 + 4 + 10 + 2));
        Due.due("20 count(4)", x.count(4), 1);
        Due.due("20 count(5)", x.count(5), 3);
        Due.due("20 count(6)", x.count(6), 0);
        x.image(1);
        Due.due("20 count(6), the second", x.count(6), 2);
        x.image(0);
        Due.due("20 count(6), both", x.count(6), 3);
        x.forget(0);
        Due.due("20 count(4), one less", x.count(4), 0);
        Due.due("20 count(5), one less", x.count(5), 2);
        for (int wrong : new int[] {-1, 7, MIN, MAX}) {
            Due.due("20 count(wrong)", x.count(wrong), DiskRests.OUTSIDE);
        }
    }

    private static void policiesTellLevels() {
        DiskRests x = new DiskRests();
        x.deeper(0, 6, 12);  // of 3 ticks: 30 and 30
        x.deeper(0, 3, 24);  // of 4 ticks: 36 and 36
        x.deeper(0, 1, 50);  // of 13 ticks: 63 and 63
        for (int age = 0; age < 40; age++) {
            Due.due("STAY " + age, x.at(0, age, 0), 0);
        }
        x.policy(0, 2, 0);
        for (int age = 0; age < 40; age++) {
            int want = age <= 3 ? 0 : age <= 4 ? 1 : age <= 13 ? 2 : 3;
            Due.due("ENVELOPE " + age, x.at(0, age, 0), want);
        }
        x.policy(0, 1, 7);
        for (int age = 0; age < 40; age++) {
            Due.due("STEPS of 7, " + age, x.at(0, age, 0), Math.min(3, age / 7));
        }
        x.policy(0, 3, 1);
        x.request(4, 0, 0);
        x.request(7, 0, 0);
        x.request(20, 0, 0);
        x.request(34, 0, 0);
        for (int tick = 0; tick < 40; tick++) {
            int want = tick < 4 ? 0 : tick < 7 ? 1 : tick < 20 ? 0 : tick < 34 ? 2 : 3;
            Due.due("FORETOLD by 1, " + tick, x.at(0, tick, 0), want);
        }
    }

    private static void sleepsAtOnceIfForetold() {
        DiskRests x = new DiskRests();
        x.deeper(0, 1, 12);
        x.policy(0, 3, 1);
        x.request(10, 0, 0);
        x.request(10, 0, 1);
        x.request(11, 0, 0);
        x.request(12, 0, 0);
        x.end(13);
        // In tick 10 it is at level 1 by a guess of 10, in tick 11 at level 0 by a guess of 1.
        dueFates("foretold", x, 1, 3, 2, 1);
        dueOfDisk("foretold", x, 0, 100 + 1 + 12 + 10 + 10, 1, 3, 1, 0, 0, 3, 1, 0, 1);
    }

    private static void requestsOfOneTickByNumber() {
        DiskRests x = new DiskRests();
        x.deeper(0, 1, 2);
        x.policy(0, 1, 1);
        x.journal(8);
        x.request(9, 0, 1);
        x.request(5, 0, 0);
        x.request(5, 0, 1);
        x.request(9, 0, 0);
        x.request(9, 0, 1);
        dueFates("one tick", x, 4, 2, 3, 2, 3);
        x.forget(1);
        dueFates("one tick, the read is gone", x, 4, 4, 2, 3);
        Due.due("one tick, age", x.at(0, 9, 1), 0);
        Due.due("one tick, rests", x.disk(0, 6), 1);
    }

    private static void journalIsSharedByDisks() {
        DiskRests x = new DiskRests();
        x.journal(1);
        x.deeper(0, 1, 2);
        x.deeper(1, 1, 2);
        x.policy(0, 1, 1);
        x.policy(1, 1, 1);
        x.request(5, 0, 1);
        x.request(6, 1, 1);
        x.request(7, 2, 1);
        dueFates("shared journal", x, 5, 6, 3);
        Due.due("shared journal, of disk 0", x.disk(0, 5), 1);
        Due.due("shared journal, of disk 1", x.disk(1, 5), 0);
    }

    private static void theRunIsAsIfDoneAnew() {
        DiskRests x = new DiskRests();
        x.request(50, 0, 0);
        Due.due("anew, STAY", x.disk(0, 0), 1000);
        x.deeper(0, 1, 9);
        Due.due("anew, a level more", x.disk(0, 0), 1000);
        x.policy(0, 1, 50);
        Due.due("anew, STEPS of 50", x.disk(0, 0), 1000);
        x.policy(0, 1, 49);
        Due.due("anew, STEPS of 49", x.disk(0, 0), 49 * 10 + 1 + 9 + 49 * 10 + 1);
        x.forget(0);
        Due.due("anew, no request", x.disk(0, 0), 49 * 10 + 51);
        x.request(60, 0, 1);
        Due.due("anew, a write", x.disk(0, 0), 49 * 10 + 11 + 9 + 400);
        x.journal(1);
        Due.due("anew, room", x.disk(0, 0), 49 * 10 + 51);
        x.image(0);
        x.end(20);
        Due.due("anew, another end", x.disk(0, 0), 200);
        x.end(100);
        Due.due("anew, the end as before", x.disk(0, 0), 49 * 10 + 51);
        x.policy(0, 0, 0);
        Due.due("anew, STAY again", x.disk(0, 0), 1000);
        x.restore(0);
        Due.due("anew, restored", x.disk(0, 0), 49 * 10 + 51);
        x.deeper(0, 0, 10);
        Due.due("anew, deeper", x.disk(0, 0), 49 * 10 + 49);
        x.power(0, 20);
        Due.due("anew, another power", x.disk(0, 0), 2000);
    }
}
