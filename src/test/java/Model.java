import java.math.BigInteger;
import java.util.ArrayList;
import java.util.Arrays;
import java.util.Collections;
import java.util.HashMap;
import java.util.List;
import java.util.Map;

/** The document's words again, in another and a slower way: nothing is kept between calls but what they set. */
final class Model {
    private static final int UNKNOWN = -1, OUTSIDE = -2, STATE = -3, FULL = -4, NO = -5, NONE = -6;

    private record Level(int power, int wake) { }

    private record Ask(int tick, int disk, int kind) { }

    private record Gap(int ticks, int endsAt, boolean toEnd) { }

    private record State(List<List<Level>> levels, List<Integer> kinds, List<Integer> ns,
            List<Ask> asks, int end, int room) {
        State copy() {
            List<List<Level>> rows = new ArrayList<>();
            for (List<Level> row : levels) {
                rows.add(new ArrayList<>(row));
            }
            return new State(rows, new ArrayList<>(kinds), new ArrayList<>(ns), new ArrayList<>(asks), end, room);
        }
    }

    /** All that one run shows, tick by tick. */
    private static final class Story {
        final int[][] level = new int[4][1000];
        final int[][] age = new int[4][1000];
        final int[][] energyAt = new int[4][1000];
        final int[] energy = new int[4], wakes = new int[4], reads = new int[4], writes = new int[4];
        final int[] entered = new int[4], ageNow = new int[4];
        final List<List<Integer>> rests = new ArrayList<>();
        final List<Integer> journal = new ArrayList<>();
        final Map<Integer, Integer> fates = new HashMap<>();
        int most = 0;
    }

    private State now;
    private final State[] images = new State[2];

    Model() {
        List<List<Level>> levels = new ArrayList<>();
        for (int d = 0; d < 4; d++) {
            levels.add(new ArrayList<>(List.of(new Level(10, 0))));
        }
        now = new State(levels, new ArrayList<>(Collections.nCopies(4, 0)),
                new ArrayList<>(Collections.nCopies(4, 0)), new ArrayList<>(), 100, 0);
    }

    private boolean noDisk(int d) {
        return d < 0 || d > 3;
    }

    private boolean noRequest(int r) {
        return r < 0 || r >= now.asks.size();
    }

    int power(int d, int power) {
        if (noDisk(d)) return UNKNOWN;
        if (power < 1 || power > 100) return OUTSIDE;
        int was = now.levels.get(d).get(0).power;
        now.levels.set(d, new ArrayList<>(List.of(new Level(power, 0))));
        return was;
    }

    int deeper(int d, int power, int wake) {
        if (noDisk(d)) return UNKNOWN;
        if (power < 0 || power > 99 || wake < 1 || wake > 999) return OUTSIDE;
        List<Level> row = now.levels.get(d);
        Level last = row.get(row.size() - 1);
        if (!(power < last.power && wake > last.wake)) return NO;
        if (row.size() == 4) return FULL;
        row.add(new Level(power, wake));
        return row.size() - 1;
    }

    int level(int d, int l, int what) {
        if (noDisk(d) || l < 0 || l >= now.levels.get(d).size()) return UNKNOWN;
        Level level = now.levels.get(d).get(l);
        return what == 0 ? level.power : what == 1 ? level.wake : OUTSIDE;
    }

    int policy(int d, int kind, int n) {
        if (noDisk(d)) return UNKNOWN;
        if (kind < 0 || kind > 3) return OUTSIDE;
        if (kind == 1 && (n < 1 || n > 500) || kind == 3 && (n < 1 || n > 4)) return OUTSIDE;
        now.ns.set(d, n);
        return now.kinds.set(d, kind);
    }

    int request(int tick, int d, int kind) {
        if (noDisk(d)) return UNKNOWN;
        if (tick < 0 || tick > 999 || kind < 0 || kind > 1) return OUTSIDE;
        if (now.asks.size() == 40) return FULL;
        now.asks.add(new Ask(tick, d, kind));
        return now.asks.size() - 1;
    }

    int forget(int r) {
        if (noRequest(r)) return UNKNOWN;
        now.asks.remove(r);
        return now.asks.size();
    }

    int told(int r, int what) {
        if (noRequest(r)) return UNKNOWN;
        Ask ask = now.asks.get(r);
        return what == 0 ? ask.tick : what == 1 ? ask.disk : what == 2 ? ask.kind : OUTSIDE;
    }

    int end(int tick) {
        if (tick < 1 || tick > 1000) return OUTSIDE;
        int was = now.end;
        now = new State(now.levels, now.kinds, now.ns, now.asks, tick, now.room);
        return was;
    }

    int journal(int room) {
        if (room < 0 || room > 8) return OUTSIDE;
        int was = now.room;
        now = new State(now.levels, now.kinds, now.ns, now.asks, now.end, room);
        return was;
    }

    private int cheapest(int d, int ticks) {
        List<Level> row = now.levels.get(d);
        int best = row.size() - 1;
        for (int l = row.size() - 1; l >= 0; l--) {
            if (row.get(l).wake + row.get(l).power * ticks <= row.get(best).wake + row.get(best).power * ticks) {
                best = l;
            }
        }
        return best;
    }

    private int guess(int d, List<Integer> rests) {
        if (rests.isEmpty()) return NONE;
        int n = now.kinds.get(d) == 3 ? now.ns.get(d) : 4;
        List<Integer> last = rests.subList(Math.max(0, rests.size() - n), rests.size());
        return last.stream().mapToInt(Integer::intValue).sum() / last.size();
    }

    private int tells(int d, int age, List<Integer> rests) {
        switch (now.kinds.get(d)) {
            case 1: return Math.min(age / now.ns.get(d), now.levels.get(d).size() - 1);
            case 2: return cheapest(d, age);
            case 3: return rests.isEmpty() ? 0 : cheapest(d, guess(d, rests));
            default: return 0;
        }
    }

    private Story story() {
        Story s = new Story();
        for (int d = 0; d < 4; d++) {
            s.rests.add(new ArrayList<>());
        }
        for (int tick = 0; tick < now.end; tick++) {
            for (int r = 0; r < now.asks.size(); r++) {
                if (now.asks.get(r).tick == tick) {
                    ask(s, tick, r);
                }
            }
            for (int d = 0; d < 4; d++) {
                int l = tells(d, s.ageNow[d], s.rests.get(d));
                s.energy[d] += now.levels.get(d).get(l).power;
                s.level[d][tick] = l;
                s.age[d][tick] = s.ageNow[d]++;
                s.energyAt[d][tick] = s.energy[d];
            }
        }
        return s;
    }

    private void ask(Story s, int tick, int r) {
        Ask ask = now.asks.get(r);
        int d = ask.disk;
        boolean sleeps = s.ageNow[d] > 0 && s.level[d][tick - 1] > 0;
        if (ask.kind == 1 && sleeps && s.journal.size() < now.room) {
            s.journal.add(r);
            s.most = Math.max(s.most, s.journal.size());
            s.entered[d]++;
            s.fates.put(r, 5);
            return;
        }
        if (sleeps) {
            s.energy[d] += now.levels.get(d).get(s.level[d][tick - 1]).wake;
            s.wakes[d]++;
            for (int w : s.journal) {
                if (now.asks.get(w).disk == d) {
                    s.fates.put(w, 4);
                }
            }
            s.journal.removeIf(w -> now.asks.get(w).disk == d);
        }
        if (s.ageNow[d] > 0) {
            s.rests.get(d).add(s.ageNow[d]);
        }
        s.ageNow[d] = 0;
        (ask.kind == 1 ? s.writes : s.reads)[d]++;
        s.fates.put(r, (ask.kind == 1 ? sleeps ? 6 : 3 : sleeps ? 2 : 1));
    }

    int disk(int d, int what) {
        if (noDisk(d)) return UNKNOWN;
        if (what < 0 || what > 9) return OUTSIDE;
        Story s = story();
        int still = (int) s.journal.stream().filter(w -> now.asks.get(w).disk == d).count();
        return new int[] {s.energy[d], s.wakes[d], s.reads[d], s.writes[d], s.entered[d], still,
            s.rests.get(d).size(), s.ageNow[d], s.level[d][now.end - 1], guess(d, s.rests.get(d))}[what];
    }

    int at(int d, int tick, int what) {
        if (noDisk(d)) return UNKNOWN;
        if (tick < 0 || tick >= now.end || what < 0 || what > 2) return OUTSIDE;
        Story s = story();
        return (what == 0 ? s.level : what == 1 ? s.age : s.energyAt)[d][tick];
    }

    int fate(int r) {
        return noRequest(r) ? UNKNOWN : story().fates.getOrDefault(r, 0);
    }

    int waiting(int i) {
        List<Integer> journal = story().journal;
        return i < 0 || i >= journal.size() ? NONE : journal.get(i);
    }

    private List<Gap> gaps(int d) {
        List<Integer> ticks = new ArrayList<>();
        for (Ask ask : now.asks) {
            if (ask.disk == d && ask.tick < now.end) {
                ticks.add(ask.tick);
            }
        }
        Collections.sort(ticks);
        List<Gap> found = new ArrayList<>();
        int from = 0;
        for (int tick : ticks) {
            found.add(new Gap(tick - from, tick, false));
            from = tick;
        }
        found.add(new Gap(now.end - from, now.end, true));
        found.removeIf(gap -> gap.ticks == 0);
        return found;
    }

    private int gapLeast(int d, Gap gap) {
        int best = Integer.MAX_VALUE;
        for (Level level : now.levels.get(d)) {
            best = Math.min(best, level.power * gap.ticks + (gap.toEnd ? 0 : level.wake));
        }
        return best;
    }

    private int gapAwake(int d, Gap gap) {
        return now.levels.get(d).get(0).power * gap.ticks;
    }

    int least(int d, int what) {
        if (noDisk(d)) return UNKNOWN;
        if (what < 0 || what > 2) return OUTSIDE;
        int sum = 0;
        int worth = 0;
        for (Gap gap : gaps(d)) {
            sum += gapLeast(d, gap);
            worth += gapLeast(d, gap) < gapAwake(d, gap) ? 1 : 0;
        }
        return what == 0 ? sum : what == 1 ? gaps(d).size() : worth;
    }

    /** By days: least[k] is what the gaps so far cost if k of them sleep. */
    int limited(int d, int day, int n) {
        if (noDisk(d)) return UNKNOWN;
        if (day < 1 || day > 1000 || n < 0 || n > 40) return OUTSIDE;
        int sum = 0;
        Map<Integer, int[]> days = new HashMap<>();
        for (Gap gap : gaps(d)) {
            if (gap.toEnd) {
                sum += gapLeast(d, gap);
                continue;
            }
            int[] least = days.computeIfAbsent(gap.endsAt / day, k -> new int[n + 1]);
            for (int k = n; k >= 0; k--) {
                int awake = least[k] + gapAwake(d, gap);
                least[k] = k == 0 ? awake : Math.min(awake, least[k - 1] + gapLeast(d, gap));
            }
        }
        for (int[] least : days.values()) {
            sum += Arrays.stream(least).min().getAsInt();
        }
        return sum;
    }

    private int policyCost(int d, int g) {
        int sum = 0;
        for (int age = 0; age < g; age++) {
            sum += now.levels.get(d).get(tells(d, age, List.of())).power;
        }
        return sum + now.levels.get(d).get(tells(d, g - 1, List.of())).wake;
    }

    int costs(int d, int g) {
        if (noDisk(d)) return UNKNOWN;
        if (g < 1 || g > 1000) return OUTSIDE;
        return now.kinds.get(d) == 3 ? STATE : policyCost(d, g);
    }

    private static int part(long upper, long lower, int what) {
        BigInteger common = BigInteger.valueOf(upper).gcd(BigInteger.valueOf(lower));
        return BigInteger.valueOf(what == 0 ? upper : lower).divide(common).intValueExact();
    }

    int worst(int d, int g, int what) {
        if (noDisk(d)) return UNKNOWN;
        if (g < 1 || g > 1000 || what < 0 || what > 2) return OUTSIDE;
        if (now.kinds.get(d) == 3) return STATE;
        long upper = -1;
        long lower = 1;
        int best = 0;
        for (int ticks = g; ticks >= 1; ticks--) {
            long cost = policyCost(d, ticks);
            long least = gapLeast(d, new Gap(ticks, ticks, false));
            if (cost * lower >= upper * least) {
                upper = cost;
                lower = least;
                best = ticks;
            }
        }
        return what == 2 ? best : part(upper, lower, what);
    }

    int drawn(int d, int l, int g, int what) {
        if (noDisk(d) || l < 1 || l >= now.levels.get(d).size()) return UNKNOWN;
        if (g < 1 || g > 1000 || what < 0 || what > 2) return OUTSIDE;
        Level top = now.levels.get(d).get(0);
        Level low = now.levels.get(d).get(l);
        int b = 0;
        while (b * (top.power - low.power) < low.wake) {
            b++;
        }
        long sum = 0;
        for (int drawn = 0; drawn < b; drawn++) {
            for (int age = 0; age < g; age++) {
                sum += age >= drawn ? low.power : top.power;
            }
            sum += g - 1 >= drawn ? low.wake : 0;
        }
        return what == 2 ? b : part(sum, b, what);
    }

    int count(int what) {
        if (what < 0 || what > 6) return OUTSIDE;
        Story s = story();
        return new int[] {now.asks.size(), now.end, now.room, Arrays.stream(s.energy).sum(), s.journal.size(),
            s.most, (images[0] == null ? 0 : 1) + (images[1] == null ? 0 : 2)}[what];
    }

    int image(int k) {
        if (k < 0 || k > 1) return OUTSIDE;
        images[k] = now.copy();
        return 1;
    }

    int restore(int k) {
        if (k < 0 || k > 1) return OUTSIDE;
        if (images[k] == null) return STATE;
        now = images[k].copy();
        return 1;
    }
}
