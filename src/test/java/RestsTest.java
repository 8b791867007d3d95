/** Promises 15 to 19: what rests cost. */
public final class RestsTest {
    private static final int MIN = Integer.MIN_VALUE, MAX = Integer.MAX_VALUE;

    public static void main(String[] args) {
        promise15Least();
        promise16Limited();
        promise17Costs();
        promise18Worst();
        promise19Drawn();
        Due.finish();
    }

    private static void dueLeast(String when, DiskRests x, int d, int sum, int gaps, int worth) {
        Due.due(when + " least(d, 0)", x.least(d, 0), sum);
        Due.due(when + " least(d, 1)", x.least(d, 1), gaps);
        Due.due(when + " least(d, 2)", x.least(d, 2), worth);
    }

    private static void promise15Least() {
        DiskRests x = new DiskRests();
        dueLeast("15 new", x, 0, 1000, 1, 0);
        x.deeper(0, 4, 30);   // of 5 ticks as dear as level 0
        x.deeper(0, 1, 900);
        dueLeast("15 no requests: to the end at the deepest", x, 0, 100, 1, 1);
        x.request(35, 0, 1);
        x.request(5, 0, 0);
        x.request(35, 0, 0);
        x.request(20, 1, 0);
        x.request(100, 0, 0);
        // Gaps of 5, 30, and 65 to the end.
        dueLeast("15", x, 0, 50 + (120 + 30) + 65, 3, 2);
        x.request(0, 0, 1);
        dueLeast("15 a request at tick 0", x, 0, 50 + 150 + 65, 3, 2);
        dueLeast("15 the other disk", x, 1, 1000, 2, 0);
        x.end(35);
        dueLeast("15 end at a request", x, 0, 50 + 30, 2, 1);
        x.end(1000);
        x.forget(4);
        dueLeast("15 a long gap to the end", x, 0, 50 + 150 + 965, 3, 2);
        x.request(999, 0, 0);
        dueLeast("15 a long gap to a request", x, 0, 50 + 150 + (964 + 900) + 1, 4, 3);
        for (int wrong : new int[] {-1, 4, MIN, MAX}) {
            Due.due("15 least(wrong, 3)", x.least(wrong, 3), DiskRests.UNKNOWN);
        }
        for (int wrong : new int[] {-1, 3, MIN, MAX}) {
            Due.due("15 least(0, wrong)", x.least(0, wrong), DiskRests.OUTSIDE);
        }
        DiskRests barely = new DiskRests();
        barely.deeper(0, 9, 1);
        barely.request(1, 0, 0);  // of 1 tick as dear as level 0
        barely.request(3, 0, 0);  // of 2 ticks less by 1
        dueLeast("15 barely worth it", barely, 0, 10 + 19 + 97 * 9, 3, 2);
        DiskRests all = new DiskRests();
        for (int i = 0; i < 40; i++) {
            all.request(i * 2 + 1, 3, 0);
        }
        dueLeast("15 forty requests", all, 3, 1000, 41, 0);
    }

    private static void promise16Limited() {
        DiskRests x = new DiskRests();
        x.deeper(0, 0, 50);
        int[] ticks = {10, 16, 29, 40, 60, 68};
        for (int tick : ticks) {
            x.request(tick, 0, tick % 2);
        }
        // Gaps end at 10, 16, 29, 40, 60, 68 and save 50, 10, 80, 60, 150, 30; to the end, 320.
        int awake = 1000 - 320;
        Due.due("16 limited(0, 1000, 0)", x.limited(0, 1000, 0), awake);
        Due.due("16 limited(0, 1000, 1)", x.limited(0, 1000, 1), awake - 150);
        Due.due("16 limited(0, 1000, 2)", x.limited(0, 1000, 2), awake - 230);
        Due.due("16 limited(0, 1000, 5)", x.limited(0, 1000, 5), awake - 370);
        Due.due("16 limited(0, 1000, 40)", x.limited(0, 1000, 40), awake - 380);
        Due.due("16 limited(0, 30, 1)", x.limited(0, 30, 1), awake - 80 - 60 - 150);
        Due.due("16 limited(0, 30, 2)", x.limited(0, 30, 2), awake - 130 - 60 - 180);
        Due.due("16 a day begins at a gap's last tick", x.limited(0, 40, 1), awake - 80 - 150);
        Due.due("16 and ends ahead of it", x.limited(0, 41, 1), awake - 80 - 150);
        Due.due("16 limited(0, 1, 0)", x.limited(0, 1, 0), awake);
        Due.due("16 limited(0, 1, 1)", x.limited(0, 1, 1), awake - 380);
        Due.due("16 least is the same", x.least(0, 0), awake - 380);
        dayEdge();
        alikeOnOneDay();
        for (int wrong : new int[] {-1, 4, MIN, MAX}) {
            Due.due("16 limited(wrong, 0, 41)", x.limited(wrong, 0, 41), DiskRests.UNKNOWN);
        }
        for (int wrong : new int[] {-1, 0, 1001, MIN, MAX}) {
            Due.due("16 limited(0, wrong, 1)", x.limited(0, wrong, 1), DiskRests.OUTSIDE);
        }
        for (int wrong : new int[] {-1, 41, MIN, MAX}) {
            Due.due("16 limited(0, 1, wrong)", x.limited(0, 1, wrong), DiskRests.OUTSIDE);
        }
    }

    private static void dayEdge() {
        DiskRests x = new DiskRests();
        x.deeper(2, 0, 50);
        x.request(20, 2, 0);
        x.request(29, 2, 0);
        x.end(30);
        // Gaps save 150 and 40; to the end, 10.
        Due.due("16 both on day 0", x.limited(2, 30, 1), 300 - 10 - 150);
        Due.due("16 one on day 1", x.limited(2, 29, 1), 300 - 10 - 190);
        Due.due("16 both on day 1", x.limited(2, 20, 1), 300 - 10 - 150);
        x.power(2, 100);
        x.deeper(2, 0, 50);
        x.request(28, 2, 1);
        // Gaps save 1950, 750, 50; to the end, 100.
        Due.due("16 days of 1 tick", x.limited(2, 1, 1), 3000 - 100 - 2750);
        Due.due("16 days of 2 ticks", x.limited(2, 2, 1), 3000 - 100 - 2700);
    }

    private static void alikeOnOneDay() {
        DiskRests x = new DiskRests();
        x.deeper(2, 0, 50);
        for (int i = 1; i <= 4; i++) {
            x.request(i * 20, 2, 0);
        }
        for (int n = 0; n <= 5; n++) {
            Due.due("16 gaps alike, " + n, x.limited(2, 1000, n), 800 - 150 * Math.min(4, n));
        }
    }

    private static void promise17Costs() {
        DiskRests x = new DiskRests();
        x.deeper(0, 6, 12);
        x.deeper(0, 3, 24);
        Due.due("17 STAY, 1", x.costs(0, 1), 10);
        Due.due("17 STAY, 1000", x.costs(0, 1000), 10000);
        x.policy(0, 1, 2);
        int[] steps = {10, 20, 20 + 6 + 12, 20 + 12 + 12, 20 + 12 + 3 + 24, 20 + 12 + 6 + 24};
        for (int g = 1; g <= 6; g++) {
            Due.due("17 STEPS of 2, " + g, x.costs(0, g), steps[g - 1]);
        }
        Due.due("17 STEPS of 2, 1000", x.costs(0, 1000), 20 + 12 + 996 * 3 + 24);
        x.policy(0, 2, 0);
        int[] envelope = {10, 20, 30, 40, 40 + 6 + 12, 40 + 6 + 3 + 24, 40 + 6 + 6 + 24};
        for (int g = 1; g <= 7; g++) {
            Due.due("17 ENVELOPE, " + g, x.costs(0, g), envelope[g - 1]);
        }
        x.request(3, 0, 0);
        Due.due("17 by itself, requests are no matter", x.costs(0, 7), envelope[6]);
        for (int wrong : new int[] {-1, 4, MIN, MAX}) {
            Due.due("17 costs(wrong, 0)", x.costs(wrong, 0), DiskRests.UNKNOWN);
        }
        x.policy(0, 3, 1);
        Due.due("17 FORETOLD", x.costs(0, 7), DiskRests.STATE);
        for (int wrong : new int[] {-1, 0, 1001, MIN, MAX}) {
            Due.due("17 costs(0, wrong)", x.costs(0, wrong), DiskRests.OUTSIDE);
        }
    }

    private static void dueWorst(String when, DiskRests x, int g, int upper, int lower, int ticks) {
        Due.due("18 " + when + ", upper", x.worst(0, g, 0), upper);
        Due.due("18 " + when + ", lower", x.worst(0, g, 1), lower);
        Due.due("18 " + when + ", ticks", x.worst(0, g, 2), ticks);
    }

    private static void promise18Worst() {
        DiskRests x = new DiskRests();
        dueWorst("one level", x, 1000, 1, 1, 1);
        x.deeper(0, 0, 40);
        dueWorst("STAY, up to 4", x, 4, 1, 1, 1);
        dueWorst("STAY, up to 5", x, 5, 5, 4, 5);
        dueWorst("STAY, up to 1000", x, 1000, 250, 1, 1000);
        x.policy(0, 1, 4);
        dueWorst("STEPS of 4, up to 4", x, 4, 1, 1, 1);
        dueWorst("STEPS of 4, the least ticks of many", x, 1000, 2, 1, 5);
        x.policy(0, 1, 1);
        dueWorst("STEPS of 1", x, 1000, 5, 2, 2);
        dueWorst("STEPS of 1, up to 1", x, 1, 1, 1, 1);
        x.policy(0, 1, 500);
        dueWorst("STEPS of 500, up to 500", x, 500, 125, 1, 500);
        dueWorst("STEPS of 500, up to 501", x, 501, 126, 1, 501);
        x.policy(0, 2, 0);
        dueWorst("ENVELOPE", x, 1000, 9, 4, 6);
        for (int wrong : new int[] {-1, 4, MIN, MAX}) {
            Due.due("18 worst(wrong, 0, 3)", x.worst(wrong, 0, 3), DiskRests.UNKNOWN);
        }
        x.policy(0, 3, 1);
        Due.due("18 FORETOLD", x.worst(0, 7, 0), DiskRests.STATE);
        for (int wrong : new int[] {-1, 0, 1001, MIN, MAX}) {
            Due.due("18 worst(0, wrong, 0)", x.worst(0, wrong, 0), DiskRests.OUTSIDE);
        }
        for (int wrong : new int[] {-1, 3, MIN, MAX}) {
            Due.due("18 worst(0, 1, wrong)", x.worst(0, 1, wrong), DiskRests.OUTSIDE);
        }
        largeFractions();
        nearFractions();
    }

    /** Costs so low that one unit more in any of them would be seen. */
    private static void nearFractions() {
        DiskRests x = new DiskRests();
        x.power(0, 1);
        dueWorst("a POWER of 1", x, 1000, 1, 1, 1);
        x.power(0, 2);
        x.deeper(0, 1, 1);
        x.policy(0, 1, 1);
        // 2 by 2, then 2 + (t - 1) + 1 by t + 1: never more than 2 + 1 + 1 by 3.
        dueWorst("POWERS of 2 and 1", x, 1000, 4, 3, 2);
    }

    /** Costs of some 100,000 each, whose products an int does not hold. */
    private static void largeFractions() {
        DiskRests x = new DiskRests();
        x.power(0, 100);
        x.deeper(0, 99, 999);
        x.policy(0, 1, 500);
        // At 501 ticks 50000 + 99 + 999 by 50100; above, the cost grows by as much as the least or less.
        dueWorst("large numbers", x, 1000, 51098 / 2, 50100 / 2, 501);
    }

    private static void dueDrawn(String when, DiskRests x, int l, int g, int upper, int lower, int b) {
        Due.due("19 " + when + ", upper", x.drawn(0, l, g, 0), upper);
        Due.due("19 " + when + ", lower", x.drawn(0, l, g, 1), lower);
        Due.due("19 " + when + ", B", x.drawn(0, l, g, 2), b);
    }

    private static void promise19Drawn() {
        DiskRests x = new DiskRests();
        x.deeper(0, 3, 20);   // 20 by 7: B is 3
        x.deeper(0, 2, 24);   // 24 by 8: B is 3
        dueDrawn("1 tick", x, 1, 1, 23 + 10 + 10, 3, 3);
        dueDrawn("2 ticks", x, 1, 2, 26 + 33 + 20, 3, 3);
        dueDrawn("3 ticks", x, 1, 3, (29 + 36 + 43) / 3, 1, 3);
        dueDrawn("1000 ticks", x, 1, 1000, 3020 + 7, 1, 3);
        dueDrawn("a WAKE that is a multiple", x, 2, 2, (28 + 36 + 20) / 3, 1, 3);
        x.deeper(0, 0, 25);   // 25 by 10: B is 3
        dueDrawn("POWER 0", x, 3, 1, (25 + 10 + 10) / 3, 1, 3);
        for (int wrong : new int[] {-1, 0, 4, MIN, MAX}) {
            Due.due("19 drawn(0, wrong, 0, 3)", x.drawn(0, wrong, 0, 3), DiskRests.UNKNOWN);
            Due.due("19 drawn(1, wrong, 1, 0)", x.drawn(1, wrong, 1, 0), DiskRests.UNKNOWN);
        }
        for (int wrong : new int[] {-1, 4, MIN, MAX}) {
            Due.due("19 drawn(wrong, 1, 0, 3)", x.drawn(wrong, 1, 0, 3), DiskRests.UNKNOWN);
        }
        for (int wrong : new int[] {-1, 0, 1001, MIN, MAX}) {
            Due.due("19 drawn(0, 1, wrong, 0)", x.drawn(0, 1, wrong, 0), DiskRests.OUTSIDE);
        }
        for (int wrong : new int[] {-1, 3, MIN, MAX}) {
            Due.due("19 drawn(0, 1, 1, wrong)", x.drawn(0, 1, 1, wrong), DiskRests.OUTSIDE);
        }
        x.power(0, 100);
        x.deeper(0, 99, 1);
        dueDrawn("B is 1", x, 1, 7, 7 * 99 + 1, 1, 1);
        x.deeper(1, 9, 999);
        Due.due("19 B is 999", x.drawn(1, 1, 1, 2), 999);
        Due.due("19 B is 999, upper", x.drawn(1, 1, 1, 0), 9 + 999 + 998 * 10);
        Due.due("19 B is 999, lower", x.drawn(1, 1, 1, 1), 999);
        x.deeper(0, 98, 999);
        dueDrawn("B is 500", x, 2, 1000, 98999 + 499, 1, 500);
    }
}
