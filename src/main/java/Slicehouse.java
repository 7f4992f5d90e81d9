import java.util.NoSuchElementException;

/** A house with one worker and many jobs that take turns by nine rules, told moment by moment. */
public final class Slicehouse {
    public static final int NONE = -1;
    public static final int IDLE = -1, CHANGES = -2;
    public static final int RING = 0, COMING = 1, SHORTEST = 2, LEAST_LEFT = 3, LEVELS = 4, SHARES = 5, DEADLINE = 6, LOTS = 7, RANKS = 8;

    private static final int MOST_JOBS = 12;
    private static final int MOST_STRETCHES = 3;
    private static final int LOCKS = 3;
    private static final int MOST_TASKS = 5;
    private static final int MOST_SLICE = 20;
    private static final int LAST_COMING = 99;
    private static final int LAST_DEADLINE = 400;
    // The worker is idle before moment 99 alone, and each of 12 * 30 moments of work has
    // at most 5 of changing ahead of it: no run is longer than 99 + 360 * 6 = 2259.
    private static final int MOST_MOMENTS = 2304;
    // A weight divides this without a rest.
    private static final int SHARE = 2520;

    private final Jobs jobs = new Jobs();
    private final Tasks tasks = new Tasks();
    private final Ways ways = new Ways();
    private final Worker worker = new Worker(jobs, ways);
    // These two try things out, so that the latest run stays.
    private final Worker trial = new Worker(jobs, ways);
    private final Worker model = new Worker(jobs, ways);
    private final Pair pair = new Pair(jobs);
    private boolean hasRun = false;

    public Slicehouse() {
    }

    // ---- jobs

    public int job(int comes, int length, int deadline, int weight) throws IllegalArgumentException, IllegalStateException {
        if (isOutside(comes, 0, LAST_COMING) || isOutside(length, 1, 30)
                || isOutside(deadline, 0, LAST_DEADLINE) || isOutside(weight, 1, 9)) {
            throw new IllegalArgumentException();
        }
        if (jobs.count >= MOST_JOBS) {
            throw new IllegalStateException();
        }
        hasRun = false;
        return jobs.tell(comes, length, deadline, weight);
    }

    public int after(int job, int other) throws IndexOutOfBoundsException, IllegalArgumentException {
        needJob(job);
        needJob(other);
        if (other >= job) {
            throw new IllegalArgumentException();
        }
        hasRun = false;
        return jobs.letWait(job, other);
    }

    public int lock(int job, int lock, int from, int to) throws IndexOutOfBoundsException, IllegalArgumentException, IllegalStateException {
        needJob(job);
        if (isOutside(lock, 0, LOCKS - 1)) {
            throw new IndexOutOfBoundsException();
        }
        if (from < 0 || to <= from || to > jobs.lengths.at(job) || jobs.overlaps(job, from, to)) {
            throw new IllegalArgumentException();
        }
        if (jobs.stretchCounts.at(job) >= MOST_STRETCHES) {
            throw new IllegalStateException();
        }
        hasRun = false;
        return jobs.addStretch(job, lock, from, to);
    }

    public int turns(int slice, int change, int rise, int seed, boolean lending) throws IllegalArgumentException {
        if (isOutside(slice, 1, MOST_SLICE) || isOutside(change, 0, 5) || isOutside(rise, 0, 99)) {
            throw new IllegalArgumentException();
        }
        int before = ways.slice;
        ways.slice = slice;
        ways.change = change;
        ways.rise = rise;
        ways.seed = seed;
        ways.lending = lending;
        hasRun = false;
        return before;
    }

    public int clear() {
        int before = jobs.count;
        jobs.count = 0;
        hasRun = false;
        return before;
    }

    // ---- runs

    public int run(int rule) throws IllegalArgumentException {
        if (isOutside(rule, RING, RANKS)) {
            throw new IllegalArgumentException();
        }
        worker.follow(rule, ways.slice, ways.change, ways.lending);
        hasRun = true;
        return worker.course.length;
    }

    public int running(int moment) throws IllegalArgumentException, IllegalStateException {
        needMoment(moment);
        needRun();
        return worker.course.doingAt(moment);
    }

    public int left(int job, int moment) throws IndexOutOfBoundsException, IllegalArgumentException, IllegalStateException {
        needJob(job);
        needMoment(moment);
        needRun();
        return worker.course.leftOf(job, moment);
    }

    public int work(int moment) throws IllegalArgumentException, IllegalStateException {
        needMoment(moment);
        needRun();
        int sum = 0;
        for (int job = 0; job < jobs.count; job++) {
            if (jobs.comes.at(job) <= moment) {
                sum += worker.course.leftOf(job, moment);
            }
        }
        return sum;
    }

    public int end(int job) throws IndexOutOfBoundsException, IllegalStateException {
        needJob(job);
        needRun();
        return worker.progress.ends.at(job);
    }

    public int sumOfEnds() throws IllegalStateException {
        needRun();
        return worker.progress.endsTogether();
    }

    public int waits(int job) throws IndexOutOfBoundsException, IllegalStateException {
        needJob(job);
        needRun();
        return worker.course.longestGap(job, worker.progress.readySince.at(job));
    }

    public int blocked(int job) throws IndexOutOfBoundsException, IllegalStateException {
        needJob(job);
        needRun();
        return worker.keptWaiting.at(job);
    }

    public int late(int job) throws IndexOutOfBoundsException, IllegalStateException {
        needJob(job);
        needRun();
        return worker.progress.lateness(job);
    }

    public int slowest(boolean isBelow) throws IllegalStateException {
        needRun();
        if (jobs.count == 0) {
            throw new IllegalStateException();
        }
        int above = 0;
        int below = 1;
        for (int job = 0; job < jobs.count; job++) {
            int stay = worker.progress.ends.at(job) - jobs.comes.at(job);
            int length = jobs.lengths.at(job);
            if (stay * below > above * length) {
                above = stay;
                below = length;
            }
        }
        return (int) reduced(isBelow ? below : above, isBelow ? above : below);
    }

    public int busy(int index, boolean isEnd) throws IllegalStateException, NoSuchElementException {
        needRun();
        if (index == NONE) {
            return worker.course.countBusy();
        }
        int begin = worker.course.busyBegin(index);
        if (begin == NONE) {
            throw new NoSuchElementException();
        }
        return isEnd ? worker.course.busyEnd(begin) : begin;
    }

    public int checksum() throws IllegalStateException {
        needRun();
        int sum = 0;
        for (int moment = 0; moment < worker.course.length; moment++) {
            sum = 31 * sum + 3 + worker.course.doingAt(moment);
        }
        return sum;
    }

    // ---- runs held against one another

    public int which() throws IllegalStateException {
        needRun();
        int rules = 0;
        for (int rule = RING; rule <= RANKS; rule++) {
            trial.follow(rule, ways.slice, ways.change, ways.lending);
            if (trial.course.isSameAs(worker.course)) {
                rules |= 1 << rule;
            }
        }
        return rules;
    }

    public int best() {
        int bestSlice = 1;
        int least = 0;
        for (int slice = 1; slice <= MOST_SLICE; slice++) {
            trial.follow(RING, slice, ways.change, ways.lending);
            int sum = trial.progress.endsTogether();
            if (slice == 1 || sum < least) {
                least = sum;
                bestSlice = slice;
            }
        }
        return bestSlice;
    }

    public int two(boolean isLeast, boolean isLate) {
        pair.workBy(isLeast);
        return isLate ? pair.progress.countLate() : pair.progress.endsTogether();
    }

    public boolean isFeasible() throws IllegalStateException {
        if (jobs.someWait()) {
            throw new IllegalStateException();
        }
        trial.follow(DEADLINE, ways.slice, 0, ways.lending);
        return trial.progress.countLate() == 0;
    }

    public int full(int what) throws IllegalArgumentException {
        if (isOutside(what, 0, 2)) {
            throw new IllegalArgumentException();
        }
        for (int from = 0; from <= LAST_COMING; from++) {
            int to = jobs.fullEnd(from);
            if (to != NONE) {
                return what == 0 ? from : what == 1 ? to : jobs.workBetween(from, to);
            }
        }
        return NONE;
    }

    // ---- tasks

    public int task(int period, int length, int deadline) throws IllegalArgumentException, IllegalStateException {
        if (isOutside(period, 1, 60) || isOutside(length, 1, 30) || length > period
                || isOutside(deadline, length, period)) {
            throw new IllegalArgumentException();
        }
        if (tasks.count >= MOST_TASKS) {
            throw new IllegalStateException();
        }
        return tasks.tell(period, length, deadline);
    }

    public long load(boolean isBelow) {
        long above = 0;
        long below = 1;
        for (int task = 0; task < tasks.count; task++) {
            int period = tasks.periods.at(task);
            above = above * period + below * tasks.lengths.at(task);
            below = below * period;
        }
        return reduced(isBelow ? below : above, isBelow ? above : below);
    }

    public int response(int task) throws IndexOutOfBoundsException {
        if (isOutside(task, 0, tasks.count - 1)) {
            throw new IndexOutOfBoundsException();
        }
        for (int time = 1; time <= tasks.deadlines.at(task); time++) {
            if (tasks.workAhead(task, time) == time) {
                return time;
            }
        }
        return NONE;
    }

    // ---- measures

    public double meanEnd() throws IllegalStateException {
        needRun();
        if (jobs.count == 0) {
            return 0.0;
        }
        return (double) worker.progress.endsTogether() / (double) jobs.count;
    }

    public float workShare() throws IllegalStateException {
        needRun();
        if (worker.course.length == 0) {
            return 0.0f;
        }
        return (float) worker.course.countWork() / (float) worker.course.length;
    }

    public int errors() {
        int wrong = haveRulesSameBusyTime() ? 0 : 1;
        if (!jobs.someWait()) {
            boolean keeps = keepsDeadlines(DEADLINE);
            wrong += hasLeastLeftLeastEnds() ? 0 : 1;
            wrong += keeps || !doesSomeRuleKeepDeadlines() ? 0 : 1;
            wrong += keeps == (full(0) == NONE) ? 0 : 1;
        }
        wrong += isRingFair() ? 0 : 1;
        wrong += isHighestFreeInTime() ? 0 : 1;
        return wrong;
    }

    // ---- the things of the theorem, one by one, as if changing cost nothing

    private boolean haveRulesSameBusyTime() {
        model.follow(RING, ways.slice, 0, ways.lending);
        for (int rule = COMING; rule <= RANKS; rule++) {
            trial.follow(rule, ways.slice, 0, ways.lending);
            if (!trial.course.isAsBusyAs(model.course)) {
                return false;
            }
        }
        return true;
    }

    private boolean hasLeastLeftLeastEnds() {
        model.follow(LEAST_LEFT, ways.slice, 0, ways.lending);
        int least = model.progress.endsTogether();
        for (int rule = RING; rule <= RANKS; rule++) {
            trial.follow(rule, ways.slice, 0, ways.lending);
            if (trial.progress.endsTogether() < least) {
                return false;
            }
        }
        return true;
    }

    private boolean keepsDeadlines(int rule) {
        trial.follow(rule, ways.slice, 0, ways.lending);
        return trial.progress.countLate() == 0;
    }

    private boolean doesSomeRuleKeepDeadlines() {
        for (int rule = RING; rule <= RANKS; rule++) {
            if (keepsDeadlines(rule)) {
                return true;
            }
        }
        return false;
    }

    /** Whether between two pieces of a job each other job has at most one slice. */
    private boolean isRingFair() {
        trial.follow(RING, ways.slice, 0, ways.lending);
        int most = (jobs.count - 1) * ways.slice;
        for (int job = 0; job < jobs.count; job++) {
            if (trial.course.longestGap(job, trial.course.firstWork(job)) > most) {
                return false;
            }
        }
        return true;
    }

    /** Whether the job of the greatest rank waits at most for the rest of one stretch at each of its own. */
    private boolean isHighestFreeInTime() {
        int highest = jobs.highest();
        if (highest == NONE) {
            return true;
        }
        trial.follow(RANKS, ways.slice, 0, true);
        return trial.keptWaiting.at(highest) <= jobs.mostKept(highest);
    }

    // ---- what calls need

    private void needJob(int job) {
        if (job < 0 || job >= jobs.count) {
            throw new IndexOutOfBoundsException();
        }
    }

    private void needMoment(int moment) {
        if (moment < 0) {
            throw new IllegalArgumentException();
        }
    }

    private void needRun() {
        if (!hasRun) {
            throw new IllegalStateException();
        }
    }

    private static boolean isOutside(int value, int least, int most) {
        return value < least || value > most;
    }

    /** The first number of a fraction, divided by the greatest divisor that it shares with the other one. */
    private static long reduced(long number, long other) {
        long divisor = number;
        long rest = other;
        // Two steps halve the rest at least, so that numbers of 63 bits need fewer than 200.
        for (int step = 0; step < 200 && rest != 0; step++) {
            long next = divisor % rest;
            divisor = rest;
            rest = next;
        }
        return divisor == 0 ? number : number / divisor;
    }

    /** Numbers in places from 0 on; a place that is not there reads 0 and takes nothing. */
    private static final class Row {
        private final int[] cells;

        Row(int size) {
            cells = new int[size < 0 ? 0 : size];
        }

        int at(int place) {
            return place >= 0 && place < cells.length ? cells[place] : 0;
        }

        void put(int place, int value) {
            if (place >= 0 && place < cells.length) {
                cells[place] = value;
            }
        }

        void add(int place, int more) {
            if (place >= 0 && place < cells.length) {
                cells[place] += more;
            }
        }

        void fill(int value) {
            for (int place = 0; place < cells.length; place++) {
                cells[place] = value;
            }
        }
    }

    /** How turns are given. */
    private static final class Ways {
        int slice = 2;
        int change = 0;
        int rise = 20;
        int seed = 1;
        boolean lending = false;
    }

    /** What was told of the jobs. */
    private static final class Jobs {
        final Row comes = new Row(MOST_JOBS);
        final Row lengths = new Row(MOST_JOBS);
        final Row deadlines = new Row(MOST_JOBS);
        // By these deadlines are compared: none is later than all.
        final Row deadlineKeys = new Row(MOST_JOBS);
        final Row weights = new Row(MOST_JOBS);
        // Bit k stands for the job k.
        final Row waitsFor = new Row(MOST_JOBS);
        final Row stretchCounts = new Row(MOST_JOBS);
        // The stretches of a job stand from 3 times its number on.
        final Row stretchLocks = new Row(MOST_JOBS * MOST_STRETCHES);
        final Row stretchFroms = new Row(MOST_JOBS * MOST_STRETCHES);
        final Row stretchTos = new Row(MOST_JOBS * MOST_STRETCHES);
        int count = 0;

        int tell(int comesAt, int length, int deadline, int weight) {
            int job = count;
            comes.put(job, comesAt);
            lengths.put(job, length);
            deadlines.put(job, deadline);
            deadlineKeys.put(job, deadline == 0 ? LAST_DEADLINE + 1 : deadline);
            weights.put(job, weight);
            waitsFor.put(job, 0);
            stretchCounts.put(job, 0);
            count++;
            return job;
        }

        int letWait(int job, int other) {
            int others = waitsFor.at(job) | 1 << other;
            waitsFor.put(job, others);
            return Integer.bitCount(others);
        }

        boolean someWait() {
            for (int job = 0; job < count; job++) {
                if (waitsFor.at(job) != 0) {
                    return true;
                }
            }
            return false;
        }

        int addStretch(int job, int lock, int from, int to) {
            int index = stretchCounts.at(job);
            int place = job * MOST_STRETCHES + index;
            stretchLocks.put(place, lock);
            stretchFroms.put(place, from);
            stretchTos.put(place, to);
            stretchCounts.put(job, index + 1);
            return index + 1;
        }

        boolean overlaps(int job, int from, int to) {
            int first = job * MOST_STRETCHES;
            for (int index = 0; index < stretchCounts.at(job); index++) {
                if (from < stretchTos.at(first + index) && stretchFroms.at(first + index) < to) {
                    return true;
                }
            }
            return false;
        }

        /** The lock in whose stretch the job is behind some moments of work; with isBegun the first one must be done. */
        int lockAt(int job, int done, boolean isBegun) {
            int first = job * MOST_STRETCHES;
            int before = isBegun ? done - 1 : done;
            for (int index = 0; index < stretchCounts.at(job); index++) {
                if (stretchFroms.at(first + index) <= before && done < stretchTos.at(first + index)) {
                    return stretchLocks.at(first + index);
                }
            }
            return NONE;
        }

        /** The job whose rank is greater than those of all others. */
        int highest() {
            int greatest = 0;
            int highest = NONE;
            for (int job = 0; job < count; job++) {
                int weight = weights.at(job);
                if (weight > greatest) {
                    greatest = weight;
                    highest = job;
                } else if (weight == greatest) {
                    highest = NONE;
                }
            }
            return highest;
        }

        /** How long others can have the locks of a job's stretches at most, if each has just done its first moment. */
        int mostKept(int job) {
            int sum = 0;
            int first = job * MOST_STRETCHES;
            for (int index = 0; index < stretchCounts.at(job); index++) {
                sum += longestRest(job, stretchLocks.at(first + index));
            }
            return sum;
        }

        private int longestRest(int job, int lock) {
            int longest = 0;
            for (int place = 0; place < count * MOST_STRETCHES; place++) {
                int other = place / MOST_STRETCHES;
                boolean isTold = place % MOST_STRETCHES < stretchCounts.at(other);
                if (isTold && other != job && stretchLocks.at(place) == lock) {
                    longest = Math.max(longest, stretchTos.at(place) - stretchFroms.at(place) - 1);
                }
            }
            return longest;
        }

        /** The least end of a stretch from a moment on that is too full. */
        int fullEnd(int from) {
            int least = NONE;
            for (int job = 0; job < count; job++) {
                // Between deadlines no work is added, so that the first end of all is a deadline or the beginning.
                int to = Math.max(from, deadlines.at(job));
                boolean isCounted = deadlines.at(job) > 0 && comes.at(job) >= from;
                if (isCounted && (least == NONE || to < least) && workBetween(from, to) > to - from) {
                    least = to;
                }
            }
            return least;
        }

        int workBetween(int from, int to) {
            int sum = 0;
            for (int job = 0; job < count; job++) {
                int deadline = deadlines.at(job);
                if (comes.at(job) >= from && deadline > 0 && deadline <= to) {
                    sum += lengths.at(job);
                }
            }
            return sum;
        }
    }

    /** Tasks that come again and again. */
    private static final class Tasks {
        final Row periods = new Row(MOST_TASKS);
        final Row lengths = new Row(MOST_TASKS);
        final Row deadlines = new Row(MOST_TASKS);
        int count = 0;

        int tell(int period, int length, int deadline) {
            int task = count;
            periods.put(task, period);
            lengths.put(task, length);
            deadlines.put(task, deadline);
            count++;
            return task;
        }

        /** The length of a task and all work that goes ahead of it in a time from the moment 0 on. */
        int workAhead(int task, int time) {
            int sum = lengths.at(task);
            for (int other = 0; other < count; other++) {
                int period = periods.at(other);
                if (goesAhead(other, task) && period > 0) {
                    sum += lengths.at(other) * ((time + period - 1) / period);
                }
            }
            return sum;
        }

        private boolean goesAhead(int other, int task) {
            int difference = deadlines.at(other) - deadlines.at(task);
            return difference < 0 || difference == 0 && other < task;
        }
    }

    /** How far the jobs have come in a run; in sets of jobs bit k stands for the job k. */
    private static final class Progress {
        final Row lefts = new Row(MOST_JOBS);
        final Row ends = new Row(MOST_JOBS);
        final Row readySince = new Row(MOST_JOBS);
        int ready = 0;
        private final Jobs jobs;
        private int ended = 0;
        private int all = 0;

        Progress(Jobs jobs) {
            this.jobs = jobs;
        }

        void begin() {
            ready = 0;
            ended = 0;
            all = (1 << jobs.count) - 1;
            for (int job = 0; job < jobs.count; job++) {
                lefts.put(job, jobs.lengths.at(job));
                ends.put(job, 0);
                readySince.put(job, 0);
            }
        }

        /** Makes those jobs ready that become so at the beginning of a moment, and returns them. */
        int admit(int moment) {
            int comers = 0;
            int absent = all & ~(ready | ended);
            for (int job = 0; job < jobs.count && absent >> job != 0; job++) {
                boolean isAbsent = (absent >> job & 1) != 0;
                if (isAbsent && jobs.comes.at(job) <= moment && (jobs.waitsFor.at(job) & ~ended) == 0) {
                    comers |= 1 << job;
                    readySince.put(job, moment);
                }
            }
            ready |= comers;
            return comers;
        }

        boolean isReady(int job) {
            return job >= 0 && (ready >> job & 1) != 0;
        }

        boolean isOver() {
            return ended == all;
        }

        int done(int job) {
            return jobs.lengths.at(job) - lefts.at(job);
        }

        void spendOn(int job, int moment) {
            lefts.add(job, -1);
            if (lefts.at(job) <= 0) {
                ready &= ~(1 << job);
                ended |= 1 << job;
                ends.put(job, moment + 1);
            }
        }

        int endsTogether() {
            int sum = 0;
            for (int job = 0; job < jobs.count; job++) {
                sum += ends.at(job);
            }
            return sum;
        }

        int lateness(int job) {
            int deadline = jobs.deadlines.at(job);
            return deadline == 0 ? 0 : Math.max(0, ends.at(job) - deadline);
        }

        int countLate() {
            int late = 0;
            for (int job = 0; job < jobs.count; job++) {
                if (lateness(job) > 0) {
                    late++;
                }
            }
            return late;
        }
    }

    /** What one worker does, moment by moment. */
    private static final class Course {
        int length = 0;
        private final Row doings = new Row(MOST_MOMENTS);
        private final Jobs jobs;

        Course(Jobs jobs) {
            this.jobs = jobs;
        }

        void note(int doing) {
            doings.put(length, doing);
            length++;
        }

        int doingAt(int moment) {
            return moment >= 0 && moment < length ? doings.at(moment) : IDLE;
        }

        int leftOf(int job, int moment) {
            int left = jobs.lengths.at(job);
            for (int earlier = 0; earlier < length && earlier < moment; earlier++) {
                if (doings.at(earlier) == job) {
                    left--;
                }
            }
            return left;
        }

        int firstWork(int job) {
            for (int moment = 0; moment < length; moment++) {
                if (doings.at(moment) == job) {
                    return moment;
                }
            }
            return length;
        }

        /** How long a job is not worked at, at most, between a moment and its last one. */
        int longestGap(int job, int from) {
            int longest = 0;
            int since = from;
            for (int moment = from; moment < length; moment++) {
                if (doings.at(moment) == job) {
                    longest = Math.max(longest, moment - since);
                    since = moment + 1;
                }
            }
            return longest;
        }

        int countWork() {
            int sum = 0;
            for (int moment = 0; moment < length; moment++) {
                if (doings.at(moment) >= 0) {
                    sum++;
                }
            }
            return sum;
        }

        int countBusy() {
            int sum = 0;
            for (int moment = 0; moment < length; moment++) {
                if (beginsBusy(moment)) {
                    sum++;
                }
            }
            return sum;
        }

        int busyBegin(int index) {
            int earlier = 0;
            for (int moment = 0; moment < length && earlier <= index; moment++) {
                if (beginsBusy(moment)) {
                    if (earlier == index) {
                        return moment;
                    }
                    earlier++;
                }
            }
            return NONE;
        }

        int busyEnd(int begin) {
            int moment = begin;
            while (moment < length && doings.at(moment) != IDLE) {
                moment++;
            }
            return moment;
        }

        private boolean beginsBusy(int moment) {
            return doings.at(moment) != IDLE && (moment == 0 || doings.at(moment - 1) == IDLE);
        }

        boolean isSameAs(Course other) {
            if (length != other.length) {
                return false;
            }
            for (int moment = 0; moment < length; moment++) {
                if (doings.at(moment) != other.doings.at(moment)) {
                    return false;
                }
            }
            return true;
        }

        /** Whether the same work is left at each moment and the busy stretches are the same. */
        boolean isAsBusyAs(Course other) {
            // The same work comes in both runs, so that what was done is all that can differ.
            int moreDone = 0;
            for (int moment = 0; moment < Math.max(length, other.length); moment++) {
                int mine = doingAt(moment);
                int others = other.doingAt(moment);
                if (moreDone != 0 || (mine == IDLE) != (others == IDLE)) {
                    return false;
                }
                moreDone += (mine >= 0 ? 1 : 0) - (others >= 0 ? 1 : 0);
            }
            return moreDone == 0;
        }
    }

    /** Jobs that stand one behind the other. */
    private static final class Line {
        private final int[] places = new int[MOST_JOBS];
        private int size = 0;

        void empty() {
            size = 0;
        }

        boolean isEmpty() {
            return size == 0;
        }

        void join(int job) {
            if (size >= 0 && size < places.length) {
                places[size] = job;
                size++;
            }
        }

        int takeFirst() {
            if (size <= 0) {
                return NONE;
            }
            int first = places[0];
            for (int place = 1; place < size && place < places.length; place++) {
                places[place - 1] = places[place];
            }
            size--;
            return first;
        }

        void moveTo(Line other) {
            for (int place = 0; place < size && place < places.length; place++) {
                other.join(places[place]);
            }
            size = 0;
        }
    }

    /** The rows of LEVELS; that of RING is the level 0. */
    private static final class Levels {
        private final Line low = new Line();
        private final Line middle = new Line();
        private final Line high = new Line();

        void empty() {
            low.empty();
            middle.empty();
            high.empty();
        }

        Line lineOf(int level) {
            return level <= 0 ? low : level == 1 ? middle : high;
        }

        void rise() {
            middle.moveTo(low);
            high.moveTo(low);
        }

        int lowest() {
            return !low.isEmpty() ? 0 : !middle.isEmpty() ? 1 : 2;
        }
    }

    /** Who has the locks at a moment, whom that blocks, and with which ranks the jobs work for choosing. */
    private static final class Locks {
        private final Jobs jobs;
        private final Progress progress;
        private final Row holders = new Row(LOCKS);
        private final Row blockers = new Row(MOST_JOBS);
        private final Row ranks = new Row(MOST_JOBS);

        Locks(Jobs jobs, Progress progress) {
            this.jobs = jobs;
            this.progress = progress;
        }

        void look(boolean lending) {
            holders.fill(NONE);
            for (int job = 0; job < jobs.count; job++) {
                int held = jobs.lockAt(job, progress.done(job), true);
                if (held != NONE) {
                    holders.put(held, job);
                }
                ranks.put(job, jobs.weights.at(job));
            }
            for (int job = 0; job < jobs.count; job++) {
                int needed = jobs.lockAt(job, progress.done(job), false);
                int holder = needed == NONE ? NONE : holders.at(needed);
                blockers.put(job, holder == job ? NONE : holder);
                if (lending && progress.isReady(job) && isBlocked(job)) {
                    ranks.put(holder, Math.max(ranks.at(holder), jobs.weights.at(job)));
                }
            }
        }

        boolean isBlocked(int job) {
            return blockers.at(job) != NONE;
        }

        /** Of the ready jobs that are not blocked the one with the greatest rank. */
        int greatest() {
            int greatest = NONE;
            for (int job = 0; job < jobs.count; job++) {
                boolean isFree = progress.isReady(job) && !isBlocked(job);
                if (isFree && (greatest == NONE || ranks.at(job) > ranks.at(greatest))) {
                    greatest = job;
                }
            }
            return greatest;
        }
    }

    /** The one worker, who makes a run by a rule. */
    private static final class Worker {
        final Progress progress;
        final Course course;
        final Row keptWaiting = new Row(MOST_JOBS);
        private final Jobs jobs;
        private final Ways ways;
        private final Levels levels = new Levels();
        private final Row counts = new Row(MOST_JOBS);
        private final Locks locks;
        private int rule = RING;
        private int slice = 0;
        private int change = 0;
        private boolean lending = false;
        private int seed = 0;
        // The job that was chosen, from which level, and what is ahead with it.
        private int chosen = NONE;
        private int level = 0;
        private int turnLeft = 0;
        private int changesLeft = 0;
        private int lastWorked = NONE;

        Worker(Jobs jobs, Ways ways) {
            this.jobs = jobs;
            this.ways = ways;
            progress = new Progress(jobs);
            course = new Course(jobs);
            locks = new Locks(jobs, progress);
        }

        void follow(int newRule, int newSlice, int newChange, boolean newLending) {
            rule = newRule;
            slice = newSlice;
            change = newChange;
            lending = newLending;
            begin();
            for (int moment = 0; moment < MOST_MOMENTS && !progress.isOver(); moment++) {
                beginMoment(moment);
                if (chosen == NONE) {
                    choose();
                }
                pass(moment);
            }
        }

        private void begin() {
            progress.begin();
            course.length = 0;
            levels.empty();
            counts.fill(0);
            keptWaiting.fill(0);
            seed = ways.seed;
            chosen = NONE;
            level = 0;
            turnLeft = 0;
            changesLeft = 0;
            lastWorked = NONE;
        }

        private void beginMoment(int moment) {
            if (rule == LEVELS && ways.rise > 0 && moment > 0 && moment % ways.rise == 0) {
                levels.rise();
            }
            int earlier = progress.ready;
            int comers = progress.admit(moment);
            if (comers != 0) {
                welcome(comers, leastCount(earlier));
            }
            if (chosen != NONE && turnLeft <= 0) {
                endSlice();
            }
            if (rule == RANKS) {
                locks.look(lending);
            }
        }

        private void welcome(int comers, int count) {
            for (int job = 0; job < jobs.count; job++) {
                if ((comers >> job & 1) != 0) {
                    counts.put(job, count);
                    if (usesLevels()) {
                        levels.lineOf(0).join(job);
                    }
                }
            }
        }

        private int leastCount(int some) {
            int least = NONE;
            for (int job = 0; job < jobs.count; job++) {
                if ((some >> job & 1) != 0 && (least == NONE || counts.at(job) < least)) {
                    least = counts.at(job);
                }
            }
            return least == NONE ? 0 : least;
        }

        /** A job that has ended is not chosen any more, and so never comes here. */
        private void endSlice() {
            if (usesLevels()) {
                int next = rule == RING ? 0 : Math.min(level + 1, 2);
                levels.lineOf(next).join(chosen);
            }
            chosen = NONE;
        }

        private boolean usesLevels() {
            return rule == RING || rule == LEVELS;
        }

        private void choose() {
            if (usesLevels()) {
                level = levels.lowest();
                chosen = levels.lineOf(level).takeFirst();
            } else if (rule == LOTS) {
                chosen = drawn();
            } else if (rule == RANKS) {
                chosen = locks.greatest();
            } else {
                chosen = leastByKey();
            }
            if (chosen != NONE) {
                turnLeft = turnOf(chosen);
                changesLeft = lastWorked == NONE || lastWorked == chosen ? 0 : change;
            }
        }

        private int turnOf(int job) {
            switch (rule) {
                case RING:
                case SHARES:
                case LOTS:
                    return slice;
                case LEVELS:
                    return slice << level;
                case COMING:
                case SHORTEST:
                    return progress.lefts.at(job);
                default:
                    return 1;
            }
        }

        private int drawn() {
            int sum = 0;
            for (int job = 0; job < jobs.count; job++) {
                sum += progress.isReady(job) ? jobs.weights.at(job) : 0;
            }
            if (sum <= 0) {
                return NONE;
            }
            seed = seed * 1103515245 + 12345;
            int draw = (seed >>> 16) % sum;
            for (int job = 0; job < jobs.count; job++) {
                draw -= progress.isReady(job) ? jobs.weights.at(job) : 0;
                if (draw < 0) {
                    return job;
                }
            }
            return NONE;
        }

        private int leastByKey() {
            int least = NONE;
            int leastKey = 0;
            for (int job = 0; job < jobs.count; job++) {
                if (progress.isReady(job)) {
                    int key = keyOf(job);
                    if (least == NONE || key < leastKey) {
                        least = job;
                        leastKey = key;
                    }
                }
            }
            return least;
        }

        private int keyOf(int job) {
            switch (rule) {
                case COMING:
                    return jobs.comes.at(job);
                case SHORTEST:
                    return jobs.lengths.at(job);
                case LEAST_LEFT:
                    return progress.lefts.at(job);
                case SHARES:
                    return counts.at(job);
                default:
                    return jobs.deadlineKeys.at(job);
            }
        }

        private void pass(int moment) {
            if (chosen == NONE) {
                course.note(IDLE);
                return;
            }
            if (rule == RANKS) {
                countKept();
            }
            if (changesLeft > 0) {
                changesLeft--;
                course.note(CHANGES);
                return;
            }
            course.note(chosen);
            workAtChosen(moment);
        }

        private void workAtChosen(int moment) {
            int weight = jobs.weights.at(chosen);
            counts.add(chosen, weight > 0 ? SHARE / weight : 0);
            progress.spendOn(chosen, moment);
            turnLeft--;
            lastWorked = chosen;
            if (!progress.isReady(chosen)) {
                chosen = NONE;
            }
        }

        private void countKept() {
            for (int job = 0; job < jobs.count; job++) {
                boolean isKept = progress.isReady(job) && locks.isBlocked(job);
                if (isKept && jobs.weights.at(chosen) < jobs.weights.at(job)) {
                    keptWaiting.add(job, 1);
                }
            }
        }
    }

    /** Two workers, whom changing costs nothing. */
    private static final class Pair {
        final Progress progress;
        private final Jobs jobs;

        Pair(Jobs jobs) {
            this.jobs = jobs;
            progress = new Progress(jobs);
        }

        void workBy(boolean isLeast) {
            progress.begin();
            for (int moment = 0; moment < MOST_MOMENTS && !progress.isOver(); moment++) {
                progress.admit(moment);
                int first = least(isLeast, NONE);
                int second = least(isLeast, first);
                if (first != NONE) {
                    progress.spendOn(first, moment);
                }
                if (second != NONE) {
                    progress.spendOn(second, moment);
                }
            }
        }

        /** The first of the ready jobs, without one of them. */
        private int least(boolean isLeast, int without) {
            int least = NONE;
            int leastKey = 0;
            for (int job = 0; job < jobs.count; job++) {
                if (progress.isReady(job) && job != without) {
                    int key = isLeast ? progress.lefts.at(job) : jobs.deadlineKeys.at(job);
                    if (least == NONE || key < leastKey) {
                        least = job;
                        leastKey = key;
                    }
                }
            }
            return least;
        }
    }
}
