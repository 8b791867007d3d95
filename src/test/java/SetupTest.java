/** Promises 1 to 10, 21, 22: what calls set, and what images keep. */
public final class SetupTest {
    private static final int MIN = Integer.MIN_VALUE, MAX = Integer.MAX_VALUE;

    public static void main(String[] args) {
        promise1NewObject();
        promise2Power();
        promise3Deeper();
        promise4Level();
        promise5Policy();
        promise6Request();
        promise7Forget();
        promise8Told();
        promise9End();
        promise10Journal();
        promise21Image();
        promise22Restore();
        refusedChangesNothing();
        Due.finish();
    }

    private static void promise1NewObject() {
        DiskRests x = new DiskRests();
        Due.due("1 count(0)", x.count(0), 0);
        Due.due("1 count(1)", x.count(1), 100);
        Due.due("1 count(2)", x.count(2), 0);
        Due.due("1 count(3)", x.count(3), 4 * 10 * 100);
        Due.due("1 count(4)", x.count(4), 0);
        Due.due("1 count(5)", x.count(5), 0);
        Due.due("1 count(6)", x.count(6), 0);
        for (int d = 0; d < 4; d++) {
            Due.due("1 level(d, 0, 0)", x.level(d, 0, 0), 10);
            Due.due("1 level(d, 0, 1)", x.level(d, 0, 1), 0);
            Due.due("1 level(d, 1, 0)", x.level(d, 1, 0), DiskRests.UNKNOWN);
            Due.due("1 policy(d, 1, 1)", x.policy(d, 1, 1), 0);
        }
        Due.due("1 restore(0)", x.restore(0), DiskRests.STATE);
        Due.due("1 restore(1)", x.restore(1), DiskRests.STATE);
        Due.due("1 told(0, 0)", x.told(0, 0), DiskRests.UNKNOWN);
        Due.due("1 waiting(0)", x.waiting(0), DiskRests.NONE);
    }

    private static void promise2Power() {
        DiskRests x = new DiskRests();
        Due.due("2 power(3, 100)", x.power(3, 100), 10);
        Due.due("2 power(3, 1)", x.power(3, 1), 100);
        Due.due("2 power(3, 1) again", x.power(3, 1), 1);
        Due.due("2 level(3, 0, 0)", x.level(3, 0, 0), 1);
        Due.due("2 level(2, 0, 0)", x.level(2, 0, 0), 10);
        for (int wrong : new int[] {-1, 4, MIN, MAX}) {
            Due.due("2 power(wrong, 0)", x.power(wrong, 0), DiskRests.UNKNOWN);
        }
        for (int wrong : new int[] {0, 101, -1, MIN, MAX}) {
            Due.due("2 power(0, wrong)", x.power(0, wrong), DiskRests.OUTSIDE);
        }
        x.deeper(0, 5, 50);
        x.deeper(0, 4, 60);
        Due.due("2 power(0, 10) with deeper levels", x.power(0, 10), 10);
        Due.due("2 level(0, 1, 0)", x.level(0, 1, 0), DiskRests.UNKNOWN);
        Due.due("2 level(0, 0, 1)", x.level(0, 0, 1), 0);
        Due.due("2 deeper(0, 9, 1) after power", x.deeper(0, 9, 1), 1);
    }

    private static void promise3Deeper() {
        DiskRests x = new DiskRests();
        x.power(0, 100);
        for (int wrong : new int[] {-1, 4, MIN, MAX}) {
            Due.due("3 deeper(wrong, -1, 0)", x.deeper(wrong, -1, 0), DiskRests.UNKNOWN);
        }
        for (int wrong : new int[] {-1, 100, MIN, MAX}) {
            Due.due("3 deeper(0, wrong, 5)", x.deeper(0, wrong, 5), DiskRests.OUTSIDE);
        }
        for (int wrong : new int[] {0, 1000, -1, MIN, MAX}) {
            Due.due("3 deeper(0, 5, wrong)", x.deeper(0, 5, wrong), DiskRests.OUTSIDE);
        }
        Due.due("3 deeper(0, 99, 1)", x.deeper(0, 99, 1), 1);
        Due.due("3 deeper(0, 99, 2)", x.deeper(0, 99, 2), DiskRests.NO);
        Due.due("3 deeper(0, 98, 1)", x.deeper(0, 98, 1), DiskRests.NO);
        Due.due("3 deeper(0, 98, 2)", x.deeper(0, 98, 2), 2);
        Due.due("3 deeper(0, 0, 999)", x.deeper(0, 0, 999), 3);
        Due.due("3 NO before FULL", x.deeper(0, 0, 999), DiskRests.NO);
        Due.due("3 OUTSIDE before NO", x.deeper(0, 0, 1000), DiskRests.OUTSIDE);
        x.deeper(1, 3, 3);
        x.deeper(1, 2, 4);
        x.deeper(1, 1, 5);
        Due.due("3 deeper(1, 0, 6)", x.deeper(1, 0, 6), DiskRests.FULL);
        Due.due("3 deeper(1, 1, 6)", x.deeper(1, 1, 6), DiskRests.NO);
        Due.due("3 deeper(2, 10, 1)", x.deeper(2, 10, 1), DiskRests.NO);
        Due.due("3 deeper(2, 9, 1)", x.deeper(2, 9, 1), 1);
    }

    private static void promise4Level() {
        DiskRests x = new DiskRests();
        x.deeper(2, 6, 20);
        x.deeper(2, 3, 40);
        int[][] rows = {{0, 10, 0}, {1, 6, 20}, {2, 3, 40}};
        for (int[] row : rows) {
            Due.due("4 level(2, l, 0)", x.level(2, row[0], 0), row[1]);
            Due.due("4 level(2, l, 1)", x.level(2, row[0], 1), row[2]);
        }
        for (int wrong : new int[] {-1, 3, 4, MIN, MAX}) {
            Due.due("4 level(2, wrong, 9)", x.level(2, wrong, 9), DiskRests.UNKNOWN);
        }
        for (int wrong : new int[] {-1, 4, MIN, MAX}) {
            Due.due("4 level(wrong, 0, 9)", x.level(wrong, 0, 9), DiskRests.UNKNOWN);
        }
        for (int wrong : new int[] {-1, 2, MIN, MAX}) {
            Due.due("4 level(2, 2, wrong)", x.level(2, 2, wrong), DiskRests.OUTSIDE);
        }
    }

    private static void promise5Policy() {
        DiskRests x = new DiskRests();
        Due.due("5 policy(1, 1, 500)", x.policy(1, 1, 500), 0);
        Due.due("5 policy(1, 1, 1)", x.policy(1, 1, 1), 1);
        Due.due("5 policy(1, 2, MIN)", x.policy(1, 2, MIN), 1);
        Due.due("5 policy(1, 3, 1)", x.policy(1, 3, 1), 2);
        Due.due("5 policy(1, 3, 4)", x.policy(1, 3, 4), 3);
        Due.due("5 policy(1, 0, MAX)", x.policy(1, 0, MAX), 3);
        for (int wrong : new int[] {-1, 4, MIN, MAX}) {
            Due.due("5 policy(wrong, 9, 0)", x.policy(wrong, 9, 0), DiskRests.UNKNOWN);
            Due.due("5 policy(0, wrong, 1)", x.policy(0, wrong, 1), DiskRests.OUTSIDE);
        }
        for (int wrong : new int[] {-1, 0, 501, MIN, MAX}) {
            Due.due("5 policy(0, 1, wrong)", x.policy(0, 1, wrong), DiskRests.OUTSIDE);
        }
        for (int wrong : new int[] {-1, 0, 5, MIN, MAX}) {
            Due.due("5 policy(0, 3, wrong)", x.policy(0, 3, wrong), DiskRests.OUTSIDE);
        }
        Due.due("5 policy(0, 0, 0) after refusals", x.policy(0, 0, 0), 0);
    }

    private static void promise6Request() {
        DiskRests x = new DiskRests();
        for (int wrong : new int[] {-1, 4, MIN, MAX}) {
            Due.due("6 request(-1, wrong, 2)", x.request(-1, wrong, 2), DiskRests.UNKNOWN);
        }
        for (int wrong : new int[] {-1, 1000, MIN, MAX}) {
            Due.due("6 request(wrong, 0, 0)", x.request(wrong, 0, 0), DiskRests.OUTSIDE);
        }
        for (int wrong : new int[] {-1, 2, MIN, MAX}) {
            Due.due("6 request(0, 0, wrong)", x.request(0, 0, wrong), DiskRests.OUTSIDE);
        }
        for (int i = 0; i < 40; i++) {
            Due.due("6 request", x.request(999 - i, i % 4, i % 2), i);
        }
        Due.due("6 the 41st", x.request(0, 0, 0), DiskRests.FULL);
        Due.due("6 OUTSIDE before FULL", x.request(1000, 0, 0), DiskRests.OUTSIDE);
        Due.due("6 UNKNOWN before FULL", x.request(0, 4, 0), DiskRests.UNKNOWN);
        Due.due("6 count(0)", x.count(0), 40);
    }

    private static void promise7Forget() {
        DiskRests x = new DiskRests();
        for (int i = 0; i < 40; i++) {
            x.request(i * 3, i % 4, i / 2 % 2);
        }
        for (int wrong : new int[] {-1, 40, MIN, MAX}) {
            Due.due("7 forget(wrong)", x.forget(wrong), DiskRests.UNKNOWN);
        }
        Due.due("7 forget(39)", x.forget(39), 39);
        Due.due("7 forget(39) again", x.forget(39), DiskRests.UNKNOWN);
        Due.due("7 forget(0)", x.forget(0), 38);
        for (int i = 0; i < 38; i++) {
            Due.due("7 told(i, 0)", x.told(i, 0), (i + 1) * 3);
            Due.due("7 told(i, 1)", x.told(i, 1), (i + 1) % 4);
            Due.due("7 told(i, 2)", x.told(i, 2), (i + 1) / 2 % 2);
        }
        Due.due("7 forget(10)", x.forget(10), 37);
        Due.due("7 told(9, 0)", x.told(9, 0), 30);
        Due.due("7 told(10, 0)", x.told(10, 0), 36);
        Due.due("7 request after", x.request(7, 0, 0), 37);
    }

    private static void promise8Told() {
        DiskRests x = new DiskRests();
        x.request(999, 3, 1);
        x.request(0, 0, 0);
        Due.due("8 told(0, 0)", x.told(0, 0), 999);
        Due.due("8 told(0, 1)", x.told(0, 1), 3);
        Due.due("8 told(0, 2)", x.told(0, 2), 1);
        Due.due("8 told(1, 0)", x.told(1, 0), 0);
        Due.due("8 told(1, 1)", x.told(1, 1), 0);
        Due.due("8 told(1, 2)", x.told(1, 2), 0);
        for (int wrong : new int[] {-1, 2, 40, MIN, MAX}) {
            Due.due("8 told(wrong, 3)", x.told(wrong, 3), DiskRests.UNKNOWN);
        }
        for (int wrong : new int[] {-1, 3, MIN, MAX}) {
            Due.due("8 told(0, wrong)", x.told(0, wrong), DiskRests.OUTSIDE);
        }
    }

    private static void promise9End() {
        DiskRests x = new DiskRests();
        for (int wrong : new int[] {0, 1001, -1, MIN, MAX}) {
            Due.due("9 end(wrong)", x.end(wrong), DiskRests.OUTSIDE);
        }
        Due.due("9 end(1000)", x.end(1000), 100);
        Due.due("9 count(3)", x.count(3), 40000);
        Due.due("9 end(1)", x.end(1), 1000);
        Due.due("9 count(3)", x.count(3), 40);
        Due.due("9 end(1) again", x.end(1), 1);
        Due.due("9 count(1)", x.count(1), 1);
    }

    private static void promise10Journal() {
        DiskRests x = new DiskRests();
        for (int wrong : new int[] {9, -1, MIN, MAX}) {
            Due.due("10 journal(wrong)", x.journal(wrong), DiskRests.OUTSIDE);
        }
        Due.due("10 journal(8)", x.journal(8), 0);
        Due.due("10 journal(8) again", x.journal(8), 8);
        Due.due("10 count(2)", x.count(2), 8);
        Due.due("10 journal(0)", x.journal(0), 8);
        Due.due("10 count(2)", x.count(2), 0);
    }

    private static DiskRests furnished() {
        DiskRests x = new DiskRests();
        x.power(1, 40);
        x.deeper(1, 20, 50);
        x.deeper(1, 5, 200);
        x.policy(1, 1, 3);
        x.policy(2, 3, 2);
        x.request(10, 1, 1);
        x.request(5, 2, 0);
        x.end(77);
        x.journal(3);
        return x;
    }

    private static void isFurnished(String when, DiskRests x) {
        Due.due(when + " level(1, 0, 0)", x.level(1, 0, 0), 40);
        Due.due(when + " level(1, 1, 1)", x.level(1, 1, 1), 50);
        Due.due(when + " level(1, 2, 0)", x.level(1, 2, 0), 5);
        Due.due(when + " level(1, 2, 1)", x.level(1, 2, 1), 200);
        Due.due(when + " level(1, 3, 0)", x.level(1, 3, 0), DiskRests.UNKNOWN);
        Due.due(when + " level(0, 1, 0)", x.level(0, 1, 0), DiskRests.UNKNOWN);
        Due.due(when + " count(0)", x.count(0), 2);
        Due.due(when + " count(1)", x.count(1), 77);
        Due.due(when + " count(2)", x.count(2), 3);
        Due.due(when + " told(0, 0)", x.told(0, 0), 10);
        Due.due(when + " told(0, 1)", x.told(0, 1), 1);
        Due.due(when + " told(0, 2)", x.told(0, 2), 1);
        Due.due(when + " told(1, 0)", x.told(1, 0), 5);
        Due.due(when + " fate(0)", x.fate(0), 5);
        Due.due(when + " disk(1, 0)", x.disk(1, 0), 3 * 40 + 3 * 20 + 71 * 5);
        Due.due(when + " at(1, 3, 0)", x.at(1, 3, 0), 1);
        Due.due(when + " at(1, 2, 0)", x.at(1, 2, 0), 0);
    }

    private static void changeAll(DiskRests x) {
        x.power(1, 41);
        x.deeper(1, 30, 77);
        x.deeper(0, 2, 9);
        x.policy(1, 2, 0);
        x.policy(2, 0, 0);
        x.forget(0);
        x.request(60, 3, 1);
        x.request(61, 3, 1);
        x.end(500);
        x.journal(8);
    }

    private static void promise21Image() {
        DiskRests x = furnished();
        for (int wrong : new int[] {-1, 2, MIN, MAX}) {
            Due.due("21 image(wrong)", x.image(wrong), DiskRests.OUTSIDE);
        }
        Due.due("21 count(6)", x.count(6), 0);
        Due.due("21 image(1)", x.image(1), 1);
        isFurnished("21 after image", x);
        Due.due("21 count(6)", x.count(6), 2);
        changeAll(x);
        Due.due("21 image(0)", x.image(0), 1);
        Due.due("21 count(6)", x.count(6), 3);
        x.restore(1);
        isFurnished("21 first image", x);
        Due.due("21 image(0) in place of the other", x.image(0), 1);
        changeAll(x);
        x.restore(0);
        isFurnished("21 image in place of another", x);
    }

    private static void promise22Restore() {
        DiskRests x = furnished();
        for (int wrong : new int[] {-1, 2, MIN, MAX}) {
            Due.due("22 restore(wrong)", x.restore(wrong), DiskRests.OUTSIDE);
        }
        Due.due("22 restore(0)", x.restore(0), DiskRests.STATE);
        x.image(0);
        Due.due("22 restore(1)", x.restore(1), DiskRests.STATE);
        for (int again = 0; again < 3; again++) {
            changeAll(x);
            Due.due("22 count(0) changed", x.count(0), 3);
            Due.due("22 restore(0)", x.restore(0), 1);
            Due.due("22 count(6)", x.count(6), 1);
            isFurnished("22 restored", x);
        }
        Due.due("22 policy(1, 0, 0)", x.policy(1, 0, 0), 1);
        Due.due("22 policy(2, 0, 0)", x.policy(2, 0, 0), 3);
        DiskRests empty = new DiskRests();
        empty.image(1);
        changeAll(empty);
        empty.restore(1);
        Due.due("22 an empty image: count(0)", empty.count(0), 0);
        Due.due("22 an empty image: count(1)", empty.count(1), 100);
        Due.due("22 an empty image: count(3)", empty.count(3), 4000);
    }

    private static void refusedChangesNothing() {
        DiskRests x = furnished();
        x.power(1, 0);
        x.power(4, 5);
        x.deeper(1, 5, 300);
        x.deeper(1, 4, 200);
        x.deeper(1, 100, 300);
        x.policy(1, 1, 0);
        x.policy(1, 4, 1);
        x.request(1000, 1, 1);
        x.request(3, 1, 2);
        x.forget(2);
        x.end(0);
        x.end(1001);
        x.journal(9);
        x.image(2);
        x.restore(0);
        isFurnished("refused calls", x);
    }
}
