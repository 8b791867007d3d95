import java.util.Random;

/** Promises 1 to 22: drawn runs of calls (always the same ones), each answer beside that of the model. */
public final class ModelTest {
    private static final int RUNS = 400, CALLS = 512;

    private final Random random;
    private final DiskRests x = new DiskRests();
    private final Model model = new Model();
    private final int ticks;

    private ModelTest(long seed) {
        random = new Random(seed);
        ticks = new int[] {12, 60, 200, 1000}[random.nextInt(4)];
    }

    public static void main(String[] args) {
        for (int run = 0; run < RUNS && !Due.anyWrong(); run++) {
            ModelTest test = new ModelTest(run);
            for (int i = 0; i < CALLS && !Due.anyWrong(); i++) {
                test.call("run " + run + " call " + i + ": ", test.random.nextInt(100));
            }
        }
        Due.finish();
    }

    /** Mostly from the range, sometimes beside it, seldom far outside. */
    private int draw(int from, int to) {
        int kind = random.nextInt(60);
        if (kind == 0) {
            return from - 1;
        }
        if (kind == 1) {
            return to + 1;
        }
        if (kind == 2) {
            return random.nextInt();
        }
        if (kind < 6) {
            return random.nextBoolean() ? from : to;
        }
        return from + random.nextInt(to - from + 1);
    }

    private int disk() {
        return random.nextInt(3) > 0 ? draw(0, 1) : draw(0, 3);
    }

    private int request() {
        return draw(0, Math.max(0, model.count(0) - 1));
    }

    private int tick(int from) {
        return random.nextInt(8) == 0 ? draw(from, from + 999) : from + draw(0, ticks - 1);
    }

    private void call(String where, int kind) {
        if (kind < 22) {
            setDisks(where, kind);
        } else if (kind < 45) {
            setRequests(where, kind);
        } else if (kind < 75) {
            askRun(where, kind);
        } else {
            askRests(where, kind);
        }
    }

    private void setDisks(String where, int kind) {
        int d = disk();
        if (kind < 2) {
            int p = draw(1, random.nextBoolean() ? 100 : 12);
            Due.due(where + "power(" + d + ", " + p + ")", x.power(d, p), model.power(d, p));
        } else if (kind < 10) {
            int p = draw(0, random.nextInt(3) == 0 ? 99 : 9);
            int w = draw(1, random.nextInt(3) == 0 ? 999 : 60);
            Due.due(where + "deeper(" + d + ", " + p + ", " + w + ")", x.deeper(d, p, w), model.deeper(d, p, w));
        } else if (kind < 12) {
            int l = draw(0, 3);
            int what = draw(0, 1);
            Due.due(where + "level(" + d + ", " + l + ", " + what + ")", x.level(d, l, what), model.level(d, l, what));
        } else if (kind < 19) {
            int k = draw(0, 3);
            int n = k == 3 ? draw(1, 4) : draw(1, random.nextInt(4) == 0 ? 500 : 8);
            Due.due(where + "policy(" + d + ", " + k + ", " + n + ")", x.policy(d, k, n), model.policy(d, k, n));
        } else {
            int k = draw(0, 1);
            if (random.nextBoolean()) {
                Due.due(where + "image(" + k + ")", x.image(k), model.image(k));
            } else {
                Due.due(where + "restore(" + k + ")", x.restore(k), model.restore(k));
            }
        }
    }

    private void setRequests(String where, int kind) {
        if (kind < 38) {
            int tick = tick(0);
            int d = disk();
            int k = draw(0, 1);
            Due.due(where + "request(" + tick + ", " + d + ", " + k + ")", x.request(tick, d, k), model.request(tick, d, k));
        } else if (kind < 41) {
            int r = request();
            Due.due(where + "forget(" + r + ")", x.forget(r), model.forget(r));
        } else if (kind < 43) {
            int r = request();
            int what = draw(0, 2);
            Due.due(where + "told(" + r + ", " + what + ")", x.told(r, what), model.told(r, what));
        } else if (kind < 44) {
            int tick = tick(1);
            Due.due(where + "end(" + tick + ")", x.end(tick), model.end(tick));
        } else {
            int room = draw(0, 8);
            Due.due(where + "journal(" + room + ")", x.journal(room), model.journal(room));
        }
    }

    private void askRun(String where, int kind) {
        int d = disk();
        if (kind < 55) {
            int what = draw(0, 9);
            Due.due(where + "disk(" + d + ", " + what + ")", x.disk(d, what), model.disk(d, what));
        } else if (kind < 61) {
            int tick = draw(0, model.count(1) - 1);
            int what = draw(0, 2);
            Due.due(where + "at(" + d + ", " + tick + ", " + what + ")", x.at(d, tick, what), model.at(d, tick, what));
        } else if (kind < 67) {
            int r = request();
            Due.due(where + "fate(" + r + ")", x.fate(r), model.fate(r));
        } else if (kind < 71) {
            int i = draw(0, 7);
            Due.due(where + "waiting(" + i + ")", x.waiting(i), model.waiting(i));
        } else {
            int what = draw(0, 6);
            Due.due(where + "count(" + what + ")", x.count(what), model.count(what));
        }
    }

    private void askRests(String where, int kind) {
        int d = disk();
        int g = random.nextInt(4) == 0 ? draw(1, 1000) : draw(1, 40);
        int what = draw(0, 2);
        if (kind < 81) {
            Due.due(where + "least(" + d + ", " + what + ")", x.least(d, what), model.least(d, what));
        } else if (kind < 87) {
            int day = random.nextInt(3) == 0 ? draw(1, 1000) : draw(1, ticks);
            int n = random.nextInt(3) == 0 ? draw(0, 40) : draw(0, 4);
            Due.due(where + "limited(" + d + ", " + day + ", " + n + ")", x.limited(d, day, n), model.limited(d, day, n));
        } else if (kind < 91) {
            Due.due(where + "costs(" + d + ", " + g + ")", x.costs(d, g), model.costs(d, g));
        } else if (kind < 95) {
            Due.due(where + "worst(" + d + ", " + g + ", " + what + ")", x.worst(d, g, what), model.worst(d, g, what));
        } else {
            int l = draw(1, 3);
            Due.due(where + "drawn(" + d + ", " + l + ", " + g + ", " + what + ")",
                    x.drawn(d, l, g, what), model.drawn(d, l, g, what));
        }
    }
}
