import java.math.BigInteger;
import java.util.ArrayList;
import java.util.LinkedList;
import java.util.List;
import java.util.TreeSet;

/**
 * The document read a second time, as literally and as slowly as it may be: whatever can be asked about a moment is
 * found from what the worker did ahead of it.
 */
final class Oracle {
    static final class Told {
        int comes;
        int length;
        int deadline;
        int weight;
        final TreeSet<Integer> waitsFor = new TreeSet<>();
        final List<int[]> stretches = new ArrayList<>();
    }

    final List<Told> jobs = new ArrayList<>();
    int slice = 2;
    int change = 0;
    int rise = 20;
    int seed = 1;
    boolean lending = false;

    // The run that is being made, or was made last.
    List<Integer> did = new ArrayList<>();
    int[] kept = new int[12];

    final List<int[]> tasks = new ArrayList<>();

    /** The load above and below the line. */
    BigInteger[] load() {
        BigInteger above = BigInteger.ZERO;
        BigInteger below = BigInteger.ONE;
        for (int[] task : tasks) {
            BigInteger period = BigInteger.valueOf(task[0]);
            above = above.multiply(period).add(below.multiply(BigInteger.valueOf(task[1])));
            below = below.multiply(period);
        }
        BigInteger common = above.gcd(below);
        return new BigInteger[] {above.divide(common), below.divide(common)};
    }

    int response(int asked) {
        int[] mine = tasks.get(asked);
        int time = 0;
        int work;
        do {
            time++;
            work = mine[1];
            for (int task = 0; task < tasks.size(); task++) {
                int[] its = tasks.get(task);
                if (its[2] < mine[2] || its[2] == mine[2] && task < asked) {
                    work += its[1] * (int) Math.ceil((double) time / its[0]);
                }
            }
        } while (work != time && time <= mine[2]);
        return time <= mine[2] ? time : -1;
    }

    int done(int job, int moment) {
        int sum = 0;
        for (int t = 0; t < moment && t < did.size(); t++) {
            sum += did.get(t) == job ? 1 : 0;
        }
        return sum;
    }

    boolean hasEnded(int job, int moment) {
        return done(job, moment) == jobs.get(job).length;
    }

    boolean isReady(int job, int moment) {
        Told told = jobs.get(job);
        if (moment < told.comes || hasEnded(job, moment)) {
            return false;
        }
        for (int other : told.waitsFor) {
            if (!hasEnded(other, moment)) {
                return false;
            }
        }
        return true;
    }

    int readySince(int job) {
        int moment = 0;
        while (!isReady(job, moment)) {
            moment++;
        }
        return moment;
    }

    List<Integer> readyAt(int moment) {
        List<Integer> ready = new ArrayList<>();
        for (int job = 0; job < jobs.size(); job++) {
            if (isReady(job, moment)) {
                ready.add(job);
            }
        }
        return ready;
    }

    /** The job that has a lock at the beginning of a moment, or -1. */
    int holder(int lock, int moment) {
        for (int job = 0; job < jobs.size(); job++) {
            int done = done(job, moment);
            for (int[] stretch : jobs.get(job).stretches) {
                boolean didFirst = done >= stretch[1] + 1;
                boolean didLast = done >= stretch[2];
                if (stretch[0] == lock && didFirst && !didLast) {
                    return job;
                }
            }
        }
        return -1;
    }

    /** The other job that has the lock that a job needs next, or -1. */
    int blocker(int job, int moment) {
        int next = done(job, moment);
        for (int[] stretch : jobs.get(job).stretches) {
            if (next >= stretch[1] && next <= stretch[2] - 1) {
                int holder = holder(stretch[0], moment);
                return holder == job ? -1 : holder;
            }
        }
        return -1;
    }

    int rank(int job, int moment) {
        int rank = jobs.get(job).weight;
        if (lending) {
            for (int other : readyAt(moment)) {
                if (blocker(other, moment) == job) {
                    rank = Math.max(rank, jobs.get(other).weight);
                }
            }
        }
        return rank;
    }

    boolean areAllEnded(int moment) {
        for (int job = 0; job < jobs.size(); job++) {
            if (!hasEnded(job, moment)) {
                return false;
            }
        }
        return true;
    }

    void run(int rule) {
        did = new ArrayList<>();
        kept = new int[12];
        List<LinkedList<Integer>> rows = List.of(new LinkedList<>(), new LinkedList<>(), new LinkedList<>());
        long[] shareAtFirst = new long[12];
        int nextSeed = seed;
        int chosen = -1;
        int from = 0;
        int stillToChange = 0;
        int stillToWork = 0;
        int worked = -1;
        for (int t = 0; !areAllEnded(t); t++) {
            if (rule == 4 && rise != 0 && t != 0 && t % rise == 0) {
                rows.get(0).addAll(rows.get(1));
                rows.get(0).addAll(rows.get(2));
                rows.get(1).clear();
                rows.get(2).clear();
            }
            List<Integer> earlier = new ArrayList<>();
            List<Integer> comers = new ArrayList<>();
            for (int job : readyAt(t)) {
                (t > 0 && isReady(job, t - 1) ? earlier : comers).add(job);
            }
            for (int job : comers) {
                long least = Long.MAX_VALUE;
                for (int other : earlier) {
                    least = Math.min(least, shareAtFirst[other] + (long) done(other, t) * 2520 / jobs.get(other).weight);
                }
                shareAtFirst[job] = earlier.isEmpty() ? 0 : least;
                rows.get(0).add(job);
            }
            if (chosen >= 0 && hasEnded(chosen, t)) {
                chosen = -1;
            } else if (chosen >= 0 && stillToWork == 0) {
                rows.get(rule == 0 ? 0 : Math.min(2, from + 1)).add(chosen);
                chosen = -1;
            }
            if (chosen < 0) {
                List<Integer> ready = readyAt(t);
                if (rule == 0 || rule == 4) {
                    from = !rows.get(0).isEmpty() ? 0 : !rows.get(1).isEmpty() ? 1 : 2;
                    chosen = rows.get(from).isEmpty() ? -1 : rows.get(from).removeFirst();
                    stillToWork = rule == 0 ? slice : new int[] {slice, 2 * slice, 4 * slice}[from];
                } else if (rule == 7) {
                    int sum = 0;
                    for (int job : ready) {
                        sum += jobs.get(job).weight;
                    }
                    if (sum > 0) {
                        nextSeed = nextSeed * 1103515245 + 12345;
                        int draw = (nextSeed >>> 16) % sum;
                        int upTo = 0;
                        for (int job : ready) {
                            upTo += jobs.get(job).weight;
                            if (chosen < 0 && upTo > draw) {
                                chosen = job;
                            }
                        }
                    }
                    stillToWork = slice;
                } else {
                    for (int job : ready) {
                        boolean may = rule != 8 || blocker(job, t) < 0;
                        if (may && (chosen < 0 || isAhead(rule, job, chosen, t, shareAtFirst))) {
                            chosen = job;
                        }
                    }
                    stillToWork = rule == 1 || rule == 2 ? 1000 : rule == 5 ? slice : 1;
                }
                stillToChange = worked >= 0 && worked != chosen ? change : 0;
            }
            if (chosen < 0) {
                did.add(-1);
                continue;
            }
            if (rule == 8) {
                for (int job : readyAt(t)) {
                    if (blocker(job, t) >= 0 && jobs.get(chosen).weight < jobs.get(job).weight) {
                        kept[job]++;
                    }
                }
            }
            if (stillToChange > 0) {
                stillToChange--;
                did.add(-2);
            } else {
                did.add(chosen);
                worked = chosen;
                stillToWork--;
            }
        }
    }

    /** Whether a job with a greater number is to be taken rather than one with a lesser number. */
    private boolean isAhead(int rule, int job, int chosen, int t, long[] shareAtFirst) {
        Told mine = jobs.get(job);
        Told its = jobs.get(chosen);
        switch (rule) {
            case 1:
                return mine.comes < its.comes;
            case 2:
                return mine.length < its.length;
            case 3:
                return mine.length - done(job, t) < its.length - done(chosen, t);
            case 5:
                return shareAtFirst[job] + done(job, t) * (2520L / mine.weight)
                        < shareAtFirst[chosen] + done(chosen, t) * (2520L / its.weight);
            case 6:
                return mine.deadline != 0 && (its.deadline == 0 || mine.deadline < its.deadline);
            default:
                return rank(job, t) > rank(chosen, t);
        }
    }

    int end(int job) {
        return did.lastIndexOf(job) + 1;
    }

    int sumOfEnds() {
        int sum = 0;
        for (int job = 0; job < jobs.size(); job++) {
            sum += end(job);
        }
        return sum;
    }

    int work(int moment) {
        int sum = 0;
        for (int job = 0; job < jobs.size(); job++) {
            sum += jobs.get(job).comes <= moment ? jobs.get(job).length - done(job, moment) : 0;
        }
        return sum;
    }

    int waits(int job) {
        int longest = 0;
        int waited = 0;
        for (int t = readySince(job); t < end(job); t++) {
            waited = did.get(t) == job ? 0 : waited + 1;
            longest = Math.max(longest, waited);
        }
        return longest;
    }

    int late(int job) {
        int deadline = jobs.get(job).deadline;
        return deadline == 0 || end(job) < deadline ? 0 : end(job) - deadline;
    }

    int countLate() {
        int sum = 0;
        for (int job = 0; job < jobs.size(); job++) {
            sum += late(job) > 0 ? 1 : 0;
        }
        return sum;
    }

    int[] slowest() {
        int[] slowest = {0, 1};
        for (int job = 0; job < jobs.size(); job++) {
            int above = end(job) - jobs.get(job).comes;
            int below = jobs.get(job).length;
            for (int divisor = below; divisor > 1; divisor--) {
                if (above % divisor == 0 && below % divisor == 0) {
                    above /= divisor;
                    below /= divisor;
                }
            }
            if ((double) above / below > (double) slowest[0] / slowest[1]) {
                slowest = new int[] {above, below};
            }
        }
        return slowest;
    }

    List<int[]> busy() {
        List<int[]> stretches = new ArrayList<>();
        int begin = -1;
        for (int t = 0; t <= did.size(); t++) {
            boolean isBusy = t < did.size() && did.get(t) != -1;
            if (isBusy && begin < 0) {
                begin = t;
            } else if (!isBusy && begin >= 0) {
                stretches.add(new int[] {begin, t});
                begin = -1;
            }
        }
        return stretches;
    }

    int checksum() {
        int sum = 0;
        for (int doing : did) {
            sum = sum * 31 + 3 + doing;
        }
        return sum;
    }

    double meanEnd() {
        return jobs.isEmpty() ? 0.0 : (double) sumOfEnds() / (double) jobs.size();
    }

    float workShare() {
        int worked = 0;
        for (int doing : did) {
            worked += doing >= 0 ? 1 : 0;
        }
        return did.isEmpty() ? 0.0f : (float) worked / (float) did.size();
    }

    int which() {
        List<Integer> latest = did;
        int bits = 0;
        for (int rule = 0; rule < 9; rule++) {
            run(rule);
            bits += did.equals(latest) ? 1 << rule : 0;
        }
        return bits;
    }

    int best() {
        int slices = slice;
        int best = 1;
        int least = Integer.MAX_VALUE;
        for (slice = 1; slice <= 20; slice++) {
            run(0);
            if (sumOfEnds() < least) {
                least = sumOfEnds();
                best = slice;
            }
        }
        slice = slices;
        return best;
    }

    boolean doesAnyWait() {
        for (Told told : jobs) {
            if (!told.waitsFor.isEmpty()) {
                return true;
            }
        }
        return false;
    }

    boolean isFeasible() {
        int costs = change;
        change = 0;
        run(6);
        change = costs;
        return countLate() == 0;
    }

    /** The beginning, the end and the work of the first stretch that is too full, or null. */
    int[] full() {
        for (int a = 0; a <= 420; a++) {
            for (int b = a; b <= 420; b++) {
                int sum = 0;
                for (Told told : jobs) {
                    sum += told.comes >= a && told.deadline != 0 && told.deadline <= b ? told.length : 0;
                }
                if (sum > b - a) {
                    return new int[] {a, b, sum};
                }
            }
        }
        return null;
    }

    /** The sum of ends, and the number of late jobs, with two workers. */
    int[] two(boolean isLeast) {
        int rule = isLeast ? 3 : 6;
        int[] left = new int[12];
        int[] ends = new int[12];
        int open = jobs.size();
        for (int job = 0; job < jobs.size(); job++) {
            left[job] = jobs.get(job).length;
        }
        for (int t = 0; open > 0; t++) {
            List<Integer> ready = new ArrayList<>();
            for (int job = 0; job < jobs.size(); job++) {
                boolean is = jobs.get(job).comes <= t && left[job] > 0;
                for (int other : jobs.get(job).waitsFor) {
                    is = is && left[other] == 0;
                }
                if (is) {
                    ready.add(job);
                }
            }
            ready.sort((a, b) -> {
                int keyA = rule == 3 ? left[a] : jobs.get(a).deadline == 0 ? 10000 : jobs.get(a).deadline;
                int keyB = rule == 3 ? left[b] : jobs.get(b).deadline == 0 ? 10000 : jobs.get(b).deadline;
                return keyA != keyB ? keyA - keyB : a - b;
            });
            for (int i = 0; i < 2 && i < ready.size(); i++) {
                int job = ready.get(i);
                left[job]--;
                if (left[job] == 0) {
                    ends[job] = t + 1;
                    open--;
                }
            }
        }
        int[] answers = {0, 0};
        for (int job = 0; job < jobs.size(); job++) {
            answers[0] += ends[job];
            answers[1] += jobs.get(job).deadline != 0 && ends[job] > jobs.get(job).deadline ? 1 : 0;
        }
        return answers;
    }
}
