import java.util.List;
import java.util.Random;

/** Houses of many kinds, each held against the oracle in all that can be asked about it. */
public final class OracleTest {
    private static final int MOST_CALLS = 512;

    private final Random random;
    private final Oracle oracle = new Oracle();
    private final String name;
    private Slicehouse house = new Slicehouse();
    private int calls = MOST_CALLS;
    private int latest = Slicehouse.RING;

    private OracleTest(int seed) {
        random = new Random(seed);
        name = "house " + seed;
    }

    public static void main(String[] args) {
        int houses = args.length == 0 ? 400 : Integer.parseInt(args[0]);
        for (int seed = 0; seed < houses && Check.wrong() < 20; seed++) {
            new OracleTest(seed).look(seed);
        }
        Check.end("OracleTest");
    }

    /** The house, or another one of which the same is told, as one is used for so many calls alone. */
    private Slicehouse asked() {
        calls++;
        if (calls > MOST_CALLS) {
            house = new Slicehouse();
            int told = tellAgain();
            house.run(latest);
            // The run, and the call that is asked next.
            calls = told + 2;
        }
        return house;
    }

    private int tellAgain() {
        int told = 1;
        house.turns(oracle.slice, oracle.change, oracle.rise, oracle.seed, oracle.lending);
        for (Oracle.Told job : oracle.jobs) {
            int number = house.job(job.comes, job.length, job.deadline, job.weight);
            for (int other : job.waitsFor) {
                house.after(number, other);
            }
            for (int[] stretch : job.stretches) {
                house.lock(number, stretch[0], stretch[1], stretch[2]);
            }
            told += 1 + job.waitsFor.size() + job.stretches.size();
        }
        return told;
    }

    private int pick(int least, int most) {
        return least + random.nextInt(most - least + 1);
    }

    private void look(int seed) {
        if (seed % 4 == 1) {
            tellCrowd(seed);
        } else {
            boolean isLarge = seed % 20 == 0;
            tellJobs(isLarge ? 12 : pick(0, 7), isLarge ? 30 : pick(1, 12), pick(0, seed % 3 == 0 ? 99 : 12));
            tellWaits(seed % 4 == 0 ? 0 : pick(0, 4));
            tellLocks(pick(0, 30), pick(0, 2));
        }
        tellTurns();
        tellTasks(pick(0, 5));
        compareJobs();
        for (int rule = 0; rule < 9; rule++) {
            compareRun(rule);
        }
    }

    /** Jobs that come together, have nearly all their work in lock stretches, and deadlines at any moment. */
    private void tellCrowd(int seed) {
        int count = pick(2, 12);
        int mostLength = pick(1, 9);
        int lastDeadline = pick(0, 2) == 0 ? 400 : 60;
        int mostWeight = pick(0, 1) == 0 ? 9 : 3;
        for (int number = 0; number < count; number++) {
            int deadline = pick(0, 3) == 0 ? 0 : pick(1, lastDeadline);
            tellJob(pick(0, seed % 3 == 0 ? 30 : 6), pick(1, mostLength), deadline, pick(1, mostWeight));
        }
        tellWaits(seed % 8 == 1 ? 0 : pick(0, 9));
        tellLocks(pick(20, 90), pick(0, 2));
    }

    private void tellJobs(int count, int mostLength, int lastComing) {
        for (int number = 0; number < count; number++) {
            int comes = pick(0, lastComing);
            int length = pick(1, mostLength);
            int deadline = pick(0, 3) == 0 ? 0 : Math.min(400, Math.max(1, comes + pick(-5, 4 * mostLength)));
            tellJob(comes, length, deadline, pick(1, 9));
        }
    }

    private void tellJob(int comes, int length, int deadline, int weight) {
        Oracle.Told told = new Oracle.Told();
        told.comes = comes;
        told.length = length;
        told.deadline = deadline;
        told.weight = weight;
        oracle.jobs.add(told);
        Check.due(name + " job", oracle.jobs.size() - 1, () -> house.job(comes, length, deadline, weight));
    }

    private void tellWaits(int count) {
        for (int i = 0; i < count && oracle.jobs.size() > 1; i++) {
            int job = pick(1, oracle.jobs.size() - 1);
            int other = pick(0, job - 1);
            oracle.jobs.get(job).waitsFor.add(other);
            Check.due(name + " after", oracle.jobs.get(job).waitsFor.size(), () -> house.after(job, other));
        }
    }

    private void tellLocks(int count, int lastLock) {
        for (int i = 0; i < count && !oracle.jobs.isEmpty(); i++) {
            int job = pick(0, oracle.jobs.size() - 1);
            int lock = pick(0, lastLock);
            int from = pick(pick(0, 9) == 0 ? -1 : 0, oracle.jobs.get(job).length - 1);
            int to = pick(0, 4) == 0 ? pick(from, oracle.jobs.get(job).length + 1) : from + pick(1, 5);
            List<int[]> stretches = oracle.jobs.get(job).stretches;
            boolean isIllegal = from < 0 || to <= from || to > oracle.jobs.get(job).length;
            for (int[] stretch : stretches) {
                isIllegal = isIllegal || Math.max(from, stretch[1]) < Math.min(to, stretch[2]);
            }
            if (isIllegal) {
                Check.illegalArgument(name + " lock", () -> house.lock(job, lock, from, to));
            } else if (stretches.size() == 3) {
                Check.illegalState(name + " lock", () -> house.lock(job, lock, from, to));
            } else {
                stretches.add(new int[] {lock, from, to});
                Check.due(name + " lock", stretches.size(), () -> house.lock(job, lock, from, to));
            }
        }
    }

    private void tellTurns() {
        if (pick(0, 4) == 0) {
            return;
        }
        oracle.slice = pick(1, pick(0, 3) == 0 ? 20 : 4);
        oracle.change = pick(0, 1) == 0 ? 0 : pick(1, 5);
        oracle.rise = pick(0, pick(0, 1) == 0 ? 12 : 99);
        oracle.seed = random.nextInt();
        oracle.lending = random.nextBoolean();
        Check.due(name + " turns", 2, () ->
                house.turns(oracle.slice, oracle.change, oracle.rise, oracle.seed, oracle.lending));
    }

    private void tellTasks(int count) {
        for (int number = 0; number < count; number++) {
            int period = pick(1, 60);
            int length = pick(1, Math.min(30, 1 + period / 4));
            int deadline = pick(Math.max(length, period - pick(0, 20)), period);
            int due = number;
            oracle.tasks.add(new int[] {period, length, deadline});
            Check.due(name + " task", due, () -> house.task(period, length, deadline));
        }
        Check.due(name + " load above", oracle.load()[0].longValueExact(), () -> house.load(false));
        Check.due(name + " load below", oracle.load()[1].longValueExact(), () -> house.load(true));
        for (int number = 0; number < count; number++) {
            int task = number;
            Check.due(name + " response " + task, oracle.response(task), () -> house.response(task));
        }
    }

    private void compareJobs() {
        Check.illegalState(name + " checksum without a run", () -> house.checksum());
        Check.due(name + " best", oracle.best(), () -> house.best());
        for (int bits = 0; bits < 4; bits++) {
            boolean isLeast = (bits & 1) != 0;
            boolean isLate = (bits & 2) != 0;
            int due = oracle.two(isLeast)[isLate ? 1 : 0];
            Check.due(name + " two " + isLeast + " " + isLate, due, () -> house.two(isLeast, isLate));
        }
        if (oracle.doesAnyWait()) {
            Check.illegalState(name + " isFeasible", () -> house.isFeasible());
        } else {
            Check.due(name + " isFeasible", oracle.isFeasible(), () -> house.isFeasible());
        }
        int[] full = oracle.full();
        for (int what = 0; what < 3; what++) {
            int asked = what;
            Check.due(name + " full " + what, full == null ? -1 : full[what], () -> house.full(asked));
        }
        Check.due(name + " errors", 0, () -> house.errors());
    }

    private void compareRun(int rule) {
        String run = name + " by rule " + rule;
        latest = rule;
        oracle.run(rule);
        int length = oracle.did.size();
        Check.due(run + " run", length, () -> asked().run(rule));
        for (int moment = 0; moment <= length + 1; moment++) {
            int at = moment;
            Check.due(run + " running " + at, at < length ? oracle.did.get(at) : -1, () -> asked().running(at));
            Check.due(run + " work " + at, oracle.work(at), () -> asked().work(at));
        }
        for (int number = 0; number < oracle.jobs.size(); number++) {
            compareJob(run, number, length);
        }
        int jobs = oracle.jobs.size();
        Check.outOfBounds(run + " end", () -> asked().end(jobs));
        Check.due(run + " sumOfEnds", oracle.sumOfEnds(), () -> asked().sumOfEnds());
        if (jobs == 0) {
            Check.illegalState(run + " slowest", () -> asked().slowest(false));
        } else {
            Check.due(run + " slowest", oracle.slowest()[0], () -> asked().slowest(false));
            Check.due(run + " slowest", oracle.slowest()[1], () -> asked().slowest(true));
        }
        compareBusy(run);
        Check.due(run + " checksum", oracle.checksum(), () -> asked().checksum());
        Check.due(run + " meanEnd", oracle.meanEnd(), () -> asked().meanEnd());
        Check.due(run + " workShare", oracle.workShare(), () -> asked().workShare());
        Check.due(run + " which", oracle.which(), () -> asked().which());
        oracle.run(rule);
        Check.due(run + " checksum after which", oracle.checksum(), () -> asked().checksum());
    }

    private void compareJob(String run, int job, int length) {
        String what = run + " job " + job + " ";
        for (int moment = 0; moment <= length; moment += 1 + moment / 10) {
            int at = moment;
            int due = oracle.jobs.get(job).length - oracle.done(job, at);
            Check.due(what + "left " + at, due, () -> asked().left(job, at));
        }
        Check.due(what + "end", oracle.end(job), () -> asked().end(job));
        Check.due(what + "waits", oracle.waits(job), () -> asked().waits(job));
        Check.due(what + "blocked", oracle.kept[job], () -> asked().blocked(job));
        Check.due(what + "late", oracle.late(job), () -> asked().late(job));
    }

    private void compareBusy(String run) {
        List<int[]> busy = oracle.busy();
        Check.due(run + " busy", busy.size(), () -> asked().busy(-1, random.nextBoolean()));
        for (int number = 0; number < busy.size(); number++) {
            int index = number;
            Check.due(run + " busy from " + index, busy.get(index)[0], () -> asked().busy(index, false));
            Check.due(run + " busy to " + index, busy.get(index)[1], () -> asked().busy(index, true));
        }
        Check.noSuchElement(run + " busy", () -> asked().busy(busy.size(), true));
        Check.noSuchElement(run + " busy", () -> asked().busy(-2, true));
    }
}
