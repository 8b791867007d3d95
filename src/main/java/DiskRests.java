/** Four disks that sleep when nothing is asked of them, and what their rests cost. */
public final class DiskRests {
    public static final int UNKNOWN = -1, OUTSIDE = -2, STATE = -3, FULL = -4, NO = -5, NONE = -6;

    private static final int DISKS = 4, LEVELS = 4, REQUESTS = 40, ROOM = 8, IMAGES = 2;
    private static final int MOST_TICKS = 1000, MOST_STEPS = 500, MOST_FORETOLD = 4;
    private static final int STEPS = 1, ENVELOPE = 2, FORETOLD = 3;
    private static final int WRITE = 1;
    private static final int NOT_COME = 0, READ_AWAKE = 1, READ_WAKES = 2;
    private static final int WRITE_AWAKE = 3, WRITE_LEFT = 4, WRITE_STAYS = 5, WRITE_WAKES = 6;

    private final Setup setup = new Setup();
    private final Setup[] images = new Setup[IMAGES];
    private final boolean[] kept = new boolean[IMAGES];
    private final Run run = new Run();
    private final Gaps gaps = new Gaps();

    public DiskRests() {
        for (int k = 0; k < IMAGES; k++) {
            images[k] = new Setup();
        }
    }

    // ---- 1 disks, requests

    public int power(int disk, int power) {
        if (!isDisk(disk)) {
            return UNKNOWN;
        }
        if (!within(power, 1, 100)) {
            return OUTSIDE;
        }
        Disk of = setup.disks[disk];
        int before = of.powers[0];
        of.powers[0] = power;
        of.deepest = 0;
        run.makeStale();
        return before;
    }

    public int deeper(int disk, int power, int wake) {
        if (!isDisk(disk)) {
            return UNKNOWN;
        }
        if (!within(power, 0, 99) || !within(wake, 1, 999)) {
            return OUTSIDE;
        }
        Disk of = setup.disks[disk];
        if (power >= of.powers[of.deepest] || wake <= of.wakes[of.deepest]) {
            return NO;
        }
        if (of.deepest >= LEVELS - 1) {
            return FULL;
        }
        of.addLevel(power, wake);
        run.makeStale();
        return of.deepest;
    }

    public int level(int disk, int level, int what) {
        if (!isDisk(disk) || !setup.disks[disk].hasLevel(level)) {
            return UNKNOWN;
        }
        switch (what) {
            case 0: return setup.disks[disk].powers[level];
            case 1: return setup.disks[disk].wakes[level];
            default: return OUTSIDE;
        }
    }

    public int policy(int disk, int kind, int n) {
        if (!isDisk(disk)) {
            return UNKNOWN;
        }
        if (!isPolicy(kind, n)) {
            return OUTSIDE;
        }
        Disk of = setup.disks[disk];
        int before = of.kind;
        of.kind = kind;
        of.n = n;
        run.makeStale();
        return before;
    }

    public int request(int tick, int disk, int kind) {
        if (!isDisk(disk)) {
            return UNKNOWN;
        }
        if (!within(tick, 0, MOST_TICKS - 1) || !within(kind, 0, WRITE)) {
            return OUTSIDE;
        }
        if (setup.requests.held >= REQUESTS) {
            return FULL;
        }
        setup.requests.add(tick, disk, kind);
        run.makeStale();
        return setup.requests.held - 1;
    }

    public int forget(int request) {
        if (!setup.requests.has(request)) {
            return UNKNOWN;
        }
        setup.requests.drop(request);
        run.makeStale();
        return setup.requests.held;
    }

    public int told(int request, int what) {
        if (!setup.requests.has(request)) {
            return UNKNOWN;
        }
        switch (what) {
            case 0: return setup.requests.ticks[request];
            case 1: return setup.requests.disks[request];
            case 2: return setup.requests.kinds[request];
            default: return OUTSIDE;
        }
    }

    public int end(int tick) {
        if (!within(tick, 1, MOST_TICKS)) {
            return OUTSIDE;
        }
        int before = setup.endTick;
        setup.endTick = tick;
        run.makeStale();
        return before;
    }

    public int journal(int room) {
        if (!within(room, 0, ROOM)) {
            return OUTSIDE;
        }
        int before = setup.room;
        setup.room = room;
        run.makeStale();
        return before;
    }

    // ---- 2 the run

    public int disk(int disk, int what) {
        if (!isDisk(disk)) {
            return UNKNOWN;
        }
        if (!within(what, 0, 9)) {
            return OUTSIDE;
        }
        Course course = wholeRun().courses[disk];
        switch (what) {
            case 0: return course.energy;
            case 1: return course.wakings;
            case 2: return course.reads;
            case 3: return course.busyWrites;
            case 4: return course.journalled;
            case 5: return run.entriesOf(setup.requests, disk);
            case 6: return course.restsEnded;
            case 7: return course.age;
            case 8: return course.levelNow;
            default: return course.guess;
        }
    }

    public int at(int disk, int tick, int what) {
        if (!isDisk(disk)) {
            return UNKNOWN;
        }
        if (!within(tick, 0, setup.endTick - 1) || !within(what, 0, 2)) {
            return OUTSIDE;
        }
        run.goOnTo(setup, tick + 1);
        Course course = run.courses[disk];
        switch (what) {
            case 0: return course.levelNow;
            // The age has grown by one since it told the level of this tick.
            case 1: return course.age - 1;
            default: return course.energy;
        }
    }

    public int fate(int request) {
        if (!setup.requests.has(request)) {
            return UNKNOWN;
        }
        return wholeRun().fates[request];
    }

    public int waiting(int i) {
        Run whole = wholeRun();
        return within(i, 0, whole.held - 1) ? whole.entries[i] : NONE;
    }

    // ---- 3 rests

    public int least(int disk, int what) {
        if (!isDisk(disk)) {
            return UNKNOWN;
        }
        if (!within(what, 0, 2)) {
            return OUTSIDE;
        }
        gaps.find(setup, disk);
        switch (what) {
            case 0: return gaps.costAwake() - gaps.savedByAll();
            case 1: return gaps.held;
            default: return gaps.worthSleeping();
        }
    }

    public int limited(int disk, int day, int n) {
        if (!isDisk(disk)) {
            return UNKNOWN;
        }
        if (!within(day, 1, MOST_TICKS) || !within(n, 0, REQUESTS)) {
            return OUTSIDE;
        }
        gaps.find(setup, disk);
        return gaps.costAwake() - gaps.savedByFew(day, n);
    }

    public int costs(int disk, int g) {
        if (!isDisk(disk)) {
            return UNKNOWN;
        }
        if (!within(g, 1, MOST_TICKS)) {
            return OUTSIDE;
        }
        if (setup.disks[disk].kind == FORETOLD) {
            return STATE;
        }
        return setup.disks[disk].costByPolicy(g);
    }

    public int worst(int disk, int g, int what) {
        if (!isDisk(disk)) {
            return UNKNOWN;
        }
        if (!within(g, 1, MOST_TICKS) || !within(what, 0, 2)) {
            return OUTSIDE;
        }
        Disk of = setup.disks[disk];
        if (of.kind == FORETOLD) {
            return STATE;
        }
        int ticks = of.worstTicks(g);
        if (what == 2) {
            return ticks;
        }
        return partOfFraction(of.costByPolicy(ticks), of.leastCost(ticks), what);
    }

    public int drawn(int disk, int level, int g, int what) {
        if (!isDisk(disk) || level == 0 || !setup.disks[disk].hasLevel(level)) {
            return UNKNOWN;
        }
        if (!within(g, 1, MOST_TICKS) || !within(what, 0, 2)) {
            return OUTSIDE;
        }
        int ages = setup.disks[disk].agesDrawn(level);
        if (what == 2) {
            return ages;
        }
        return partOfFraction(setup.disks[disk].costOfAllDrawn(level, g, ages), ages, what);
    }

    public int count(int what) {
        switch (what) {
            case 0: return setup.requests.held;
            case 1: return setup.endTick;
            case 2: return setup.room;
            case 3: return wholeRun().energyOfAll();
            case 4: return wholeRun().held;
            case 5: return wholeRun().most;
            case 6: return (kept[0] ? 1 : 0) + (kept[1] ? 2 : 0);
            default: return OUTSIDE;
        }
    }

    // ---- 4 images

    public int image(int k) {
        if (!within(k, 0, IMAGES - 1)) {
            return OUTSIDE;
        }
        images[k].copyFrom(setup);
        kept[k] = true;
        return 1;
    }

    public int restore(int k) {
        if (!within(k, 0, IMAGES - 1)) {
            return OUTSIDE;
        }
        if (!kept[k]) {
            return STATE;
        }
        setup.copyFrom(images[k]);
        run.makeStale();
        return 1;
    }

    // ---- helpers of the face

    private static boolean within(int number, int from, int to) {
        return number >= from && number <= to;
    }

    private static boolean isDisk(int disk) {
        return within(disk, 0, DISKS - 1);
    }

    private static boolean isPolicy(int kind, int n) {
        switch (kind) {
            case STEPS: return within(n, 1, MOST_STEPS);
            case FORETOLD: return within(n, 1, MOST_FORETOLD);
            default: return within(kind, 0, FORETOLD);
        }
    }

    private Run wholeRun() {
        run.goOnTo(setup, setup.endTick);
        return run;
    }

    /** The upper (what = 0) or the lower number of a fraction, in lowest terms. */
    private static int partOfFraction(int upper, int lower, int what) {
        int divisor = Math.max(1, commonDivisor(upper, lower));
        return (what == 0 ? upper : lower) / divisor;
    }

    private static int commonDivisor(int a, int b) {
        int greater = a;
        int less = b;
        // Euclid's way takes fewer than 50 rounds for any two ints.
        for (int round = 0; round < 50 && less != 0; round++) {
            int left = greater % less;
            greater = less;
            less = left;
        }
        return greater;
    }

    /** The levels and the policy of one disk. */
    private static final class Disk {
        private final int[] powers = new int[LEVELS];
        private final int[] wakes = new int[LEVELS];
        private int deepest;
        private int kind;
        private int n;

        private Disk() {
            powers[0] = 10;
        }

        private void copyFrom(Disk other) {
            System.arraycopy(other.powers, 0, powers, 0, LEVELS);
            System.arraycopy(other.wakes, 0, wakes, 0, LEVELS);
            deepest = other.deepest;
            kind = other.kind;
            n = other.n;
        }

        private boolean hasLevel(int l) {
            return within(l, 0, deepest);
        }

        private void addLevel(int newPower, int newWake) {
            deepest++;
            powers[deepest] = newPower;
            wakes[deepest] = newWake;
        }

        /** How many of the last rests its guess is the mean of. */
        private int restsForGuess() {
            return kind == FORETOLD ? n : MOST_FORETOLD;
        }

        private int levelFor(int age, int guess) {
            switch (kind) {
                case STEPS: return Math.min(age / Math.max(1, n), deepest);
                case ENVELOPE: return cheapestLevel(age);
                case FORETOLD: return guess == NONE ? 0 : cheapestLevel(guess);
                default: return 0;
            }
        }

        private int cheapestLevel(int ticks) {
            int best = 0;
            for (int l = 1; l <= deepest; l++) {
                if (levelCost(l, ticks) < levelCost(best, ticks)) {
                    best = l;
                }
            }
            return best;
        }

        private int levelCost(int l, int ticks) {
            return powers[l] * ticks + wakes[l];
        }

        private int leastCost(int ticks) {
            return levelCost(cheapestLevel(ticks), ticks);
        }

        /** The deepest level draws the least, and nothing wakes a disk at the end. */
        private int leastCostToEnd(int ticks) {
            return powers[deepest] * ticks;
        }

        private int costByPolicy(int ticks) {
            int drawnSoFar = 0;
            int last = 0;
            for (int age = 0; age < ticks; age++) {
                last = levelFor(age, NONE);
                drawnSoFar += powers[last];
            }
            return drawnSoFar + wakes[last];
        }

        /** The least number of ticks, up to so many, at which cost by least cost is greatest. */
        private int worstTicks(int most) {
            int found = 1;
            long upper = 0;
            long lower = 1;
            int drawnSoFar = 0;
            for (int ticks = 1; ticks <= most; ticks++) {
                int last = levelFor(ticks - 1, NONE);
                drawnSoFar += powers[last];
                long cost = drawnSoFar + wakes[last];
                long least = leastCost(ticks);
                if (cost * lower > upper * least) {
                    upper = cost;
                    lower = least;
                    found = ticks;
                }
            }
            return found;
        }

        private int agesDrawn(int l) {
            int saving = Math.max(1, powers[0] - powers[l]);
            return (wakes[l] + saving - 1) / saving;
        }

        private int costOfAllDrawn(int l, int ticks, int ages) {
            int sum = 0;
            for (int age = 0; age < ages; age++) {
                sum += ticks <= age
                        ? powers[0] * ticks
                        : powers[0] * age + levelCost(l, ticks - age);
            }
            return sum;
        }
    }

    /** The requests, by their numbers. */
    private static final class Requests {
        private final int[] ticks = new int[REQUESTS];
        private final int[] disks = new int[REQUESTS];
        private final int[] kinds = new int[REQUESTS];
        private int held;

        private void copyFrom(Requests other) {
            System.arraycopy(other.ticks, 0, ticks, 0, REQUESTS);
            System.arraycopy(other.disks, 0, disks, 0, REQUESTS);
            System.arraycopy(other.kinds, 0, kinds, 0, REQUESTS);
            held = other.held;
        }

        private boolean has(int number) {
            return within(number, 0, held - 1);
        }

        private void add(int tick, int ofDisk, int kind) {
            ticks[held] = tick;
            disks[held] = ofDisk;
            kinds[held] = kind;
            held++;
        }

        private void drop(int number) {
            held--;
            for (int i = number; i < held; i++) {
                ticks[i] = ticks[i + 1];
                disks[i] = disks[i + 1];
                kinds[i] = kinds[i + 1];
            }
        }

        /** Fills in the numbers by rising ticks, those of one tick by rising numbers. */
        private void putInOrder(int[] order) {
            for (int number = 0; number < held; number++) {
                int place = number;
                while (place > 0 && ticks[order[place - 1]] > ticks[number]) {
                    order[place] = order[place - 1];
                    place--;
                }
                order[place] = number;
            }
        }
    }

    /** All that calls set, and that an image keeps. */
    private static final class Setup {
        private final Disk[] disks = new Disk[DISKS];
        private final Requests requests = new Requests();
        private int endTick = 100;
        private int room;

        private Setup() {
            for (int d = 0; d < DISKS; d++) {
                disks[d] = new Disk();
            }
        }

        private void copyFrom(Setup other) {
            for (int d = 0; d < DISKS; d++) {
                disks[d].copyFrom(other.disks[d]);
            }
            requests.copyFrom(other.requests);
            endTick = other.endTick;
            room = other.room;
        }
    }

    /** What one disk has done in the run so far. */
    private static final class Course {
        private int energy, wakings, reads, busyWrites, journalled;
        private int age, levelNow;
        private final int[] rests = new int[REQUESTS];
        private int restsEnded;
        private int guess = NONE;

        private void begin() {
            energy = 0;
            wakings = 0;
            reads = 0;
            busyWrites = 0;
            journalled = 0;
            age = 0;
            levelNow = 0;
            restsEnded = 0;
            guess = NONE;
        }

        private boolean sleeps() {
            return age > 0 && levelNow > 0;
        }

        private void becomeBusy(int restsForGuess) {
            // Each request ends one rest at the most, so the row always has a place.
            if (age > 0 && restsEnded < REQUESTS) {
                rests[restsEnded] = age;
                restsEnded++;
                guess = meanOfLast(restsForGuess);
            }
            age = 0;
        }

        private int meanOfLast(int wanted) {
            int taken = wanted < restsEnded ? wanted : restsEnded;
            int sum = 0;
            for (int i = restsEnded - taken; i < restsEnded; i++) {
                sum += rests[i];
            }
            return taken > 0 ? sum / taken : NONE;
        }

        private void passTick(Disk of) {
            levelNow = of.levelFor(age, guess);
            energy += of.powers[levelNow];
            age++;
        }
    }

    /** The run, as far as it has gone; it goes on from there until what it is of changes. */
    private static final class Run {
        private final Course[] courses = new Course[DISKS];
        private final int[] order = new int[REQUESTS];
        private final int[] fates = new int[REQUESTS];
        private final int[] entries = new int[ROOM];
        private int held, most;
        private int next;
        private int ticksDone;
        private boolean stale = true;

        private Run() {
            for (int d = 0; d < DISKS; d++) {
                courses[d] = new Course();
            }
        }

        private void makeStale() {
            stale = true;
        }

        private void goOnTo(Setup setup, int ticks) {
            if (stale || ticksDone > ticks) {
                begin(setup.requests);
            }
            for (int tick = ticksDone; tick < ticks; tick++) {
                serveAllOf(setup, tick);
                for (int d = 0; d < DISKS; d++) {
                    courses[d].passTick(setup.disks[d]);
                }
            }
            ticksDone = ticks;
        }

        private void begin(Requests requests) {
            for (int d = 0; d < DISKS; d++) {
                courses[d].begin();
            }
            for (int i = 0; i < REQUESTS; i++) {
                fates[i] = NOT_COME;
            }
            requests.putInOrder(order);
            held = 0;
            most = 0;
            next = 0;
            ticksDone = 0;
            stale = false;
        }

        private void serveAllOf(Setup setup, int tick) {
            Requests requests = setup.requests;
            int i = next;
            while (i < requests.held && requests.ticks[order[i]] == tick) {
                serve(setup, order[i]);
                i++;
            }
            next = i;
        }

        private void serve(Setup setup, int number) {
            int d = setup.requests.disks[number];
            boolean write = setup.requests.kinds[number] == WRITE;
            Course course = courses[d];
            boolean slept = course.sleeps();
            if (write && slept && held < Math.min(setup.room, ROOM)) {
                enter(course, number);
                return;
            }
            if (slept) {
                wakeUp(setup, d);
            }
            course.becomeBusy(setup.disks[d].restsForGuess());
            if (write) {
                course.busyWrites++;
                fates[number] = slept ? WRITE_WAKES : WRITE_AWAKE;
            } else {
                course.reads++;
                fates[number] = slept ? READ_WAKES : READ_AWAKE;
            }
        }

        private void enter(Course course, int number) {
            entries[held] = number;
            held++;
            most = Math.max(most, held);
            course.journalled++;
            fates[number] = WRITE_STAYS;
        }

        private void wakeUp(Setup setup, int d) {
            Course course = courses[d];
            course.energy += setup.disks[d].wakes[course.levelNow];
            course.wakings++;
            letEntriesLeave(setup.requests, d);
        }

        private void letEntriesLeave(Requests requests, int d) {
            int staying = 0;
            for (int i = 0; i < held; i++) {
                int number = entries[i];
                if (requests.disks[number] == d) {
                    fates[number] = WRITE_LEFT;
                } else {
                    entries[staying] = number;
                    staying++;
                }
            }
            held = staying;
        }

        private int entriesOf(Requests requests, int d) {
            int found = 0;
            for (int i = 0; i < held; i++) {
                if (requests.disks[entries[i]] == d) {
                    found++;
                }
            }
            return found;
        }

        private int energyOfAll() {
            int sum = 0;
            for (int d = 0; d < DISKS; d++) {
                sum += courses[d].energy;
            }
            return sum;
        }
    }

    /** The gaps of one disk; the last of them is the one to the end, which is always there. */
    private static final class Gaps {
        private final int[] order = new int[REQUESTS];
        private final int[] lastTicks = new int[REQUESTS + 1];
        private final int[] awake = new int[REQUESTS + 1];
        private final int[] saved = new int[REQUESTS + 1];
        private int held;

        private void find(Setup setup, int d) {
            Requests requests = setup.requests;
            Disk of = setup.disks[d];
            requests.putInOrder(order);
            held = 0;
            int from = 0;
            for (int i = 0; i < requests.held; i++) {
                int tick = requests.ticks[order[i]];
                if (requests.disks[order[i]] == d && tick < setup.endTick && tick > from) {
                    add(tick, of.powers[0] * (tick - from), of.leastCost(tick - from));
                    from = tick;
                }
            }
            int rest = setup.endTick - from;
            add(setup.endTick, of.powers[0] * rest, of.leastCostToEnd(rest));
        }

        private void add(int to, int costAwake, int leastCost) {
            lastTicks[held] = to;
            awake[held] = costAwake;
            saved[held] = costAwake - leastCost;
            held++;
        }

        private int costAwake() {
            return sumOf(awake);
        }

        private int savedByAll() {
            return sumOf(saved);
        }

        private int sumOf(int[] row) {
            int sum = 0;
            for (int i = 0; i < held; i++) {
                sum += row[i];
            }
            return sum;
        }

        private int worthSleeping() {
            int found = 0;
            for (int i = 0; i < held; i++) {
                if (saved[i] > 0) {
                    found++;
                }
            }
            return found;
        }

        /** What is saved if of each day the n gaps that save the most are slept through. */
        private int savedByFew(int day, int n) {
            int sum = 0;
            for (int i = 0; i < held; i++) {
                if (i == held - 1 || betterOfSameDay(i, Math.max(1, day)) < n) {
                    sum += saved[i];
                }
            }
            return sum;
        }

        private int betterOfSameDay(int i, int day) {
            int found = 0;
            for (int k = 0; k < held - 1; k++) {
                boolean better = saved[k] > saved[i] || saved[k] == saved[i] && k < i;
                if (better && lastTicks[k] / day == lastTicks[i] / day) {
                    found++;
                }
            }
            return found;
        }
    }
}
