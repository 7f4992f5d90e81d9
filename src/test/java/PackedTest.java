/** A house that is full: 12 jobs, 5 tasks, 3 lock stretches of a job, and 512 calls. */
public final class PackedTest {
    private static final int MOST_CALLS = 512;

    private PackedTest() {
    }

    public static void main(String[] args) {
        promise2TwelveJobs();
        promise2TwelveAgainWhenCleared();
        promise3ElevenWaitedFor();
        promise4ThreeStretches();
        promise4ThreeStretchesOfEachJob();
        promise7TwelveJobsByEachRule();
        promise7TheLongestRun();
        promise18TheLongestRunsChecksum();
        promise24FiveTasks();
        promise26FiveTasks();
        theLastPromisedCall();
        Check.end("PackedTest");
    }

    private static Slicehouse twelve(int comes, int length) {
        Slicehouse house = new Slicehouse();
        for (int job = 0; job < 12; job++) {
            house.job(comes, length, 0, 1);
        }
        return house;
    }

    private static void promise2TwelveJobs() {
        Slicehouse house = new Slicehouse();
        for (int number = 0; number < 12; number++) {
            int job = number;
            Check.due("2: the number of the next job", job, () -> house.job(0, 1, 0, 1));
        }
        Check.illegalState("2: a thirteenth", () -> house.job(0, 1, 0, 1));
        Check.illegalArgument("2: a thirteenth, out of range", () -> house.job(0, 1, 0, 0));
        Check.due("2: all of them run", 12, () -> house.run(Slicehouse.RING));
        Check.due("2: the last one ends", 12, () -> house.end(11));
        Check.outOfBounds("2: none behind it", () -> house.end(12));
    }

    private static void promise2TwelveAgainWhenCleared() {
        Slicehouse house = twelve(0, 1);
        Check.due("6: clear of twelve", 12, () -> house.clear());
        for (int number = 0; number < 12; number++) {
            int job = number;
            Check.due("2: twelve again", job, () -> house.job(99, 30, 400, 9));
        }
        Check.illegalState("2: and no thirteenth", () -> house.job(99, 30, 400, 9));
    }

    private static void promise3ElevenWaitedFor() {
        Slicehouse house = twelve(0, 2);
        for (int number = 10; number >= 0; number--) {
            int other = number;
            Check.due("3: waits for one more", 11 - other, () -> house.after(11, other));
            Check.due("3: told again", 11 - other, () -> house.after(11, other));
        }
        Check.due("3: the run", 24, () -> house.run(Slicehouse.RING));
        Check.due("3: it begins when the last one has ended", 22, () -> firstMoment(house, 11));
        Check.due("13: and has not waited since then", 0, () -> house.waits(11));
        // Each waits for the one ahead of it.
        Slicehouse chain = new Slicehouse();
        chain.job(3, 1, 0, 1);
        for (int job = 1; job < 12; job++) {
            chain.job(0, 1, 0, 1);
            chain.after(job, job - 1);
        }
        for (int rule = Slicehouse.RING; rule <= Slicehouse.RANKS; rule++) {
            Check.run("3: a chain of twelve", chain, rule, "---abcdefghijkl");
        }
        Check.due("19: by all rules", 511, () -> chain.which());
    }

    private static int firstMoment(Slicehouse house, int job) {
        int moment = 0;
        while (moment < 3000 && house.running(moment) != job) {
            moment++;
        }
        return moment;
    }

    private static void promise4ThreeStretches() {
        Slicehouse house = Houses.with(Houses.weighing(0, 5, 1), Houses.weighing(0, 30, 1));
        Check.due("4: the first", 1, () -> house.lock(0, 0, 4, 5));
        Check.due("4: the second", 2, () -> house.lock(0, 0, 0, 1));
        Check.due("4: the third", 3, () -> house.lock(0, 0, 2, 3));
        Check.illegalState("4: no fourth", () -> house.lock(0, 0, 1, 2));
        Check.illegalState("4: no fourth for another lock", () -> house.lock(0, 2, 3, 4));
        Check.illegalArgument("4: no fourth, and overlapping", () -> house.lock(0, 2, 2, 3));
        Check.illegalArgument("4: no fourth, and out of range", () -> house.lock(0, 2, 5, 6));
        Check.outOfBounds("4: no fourth, and no lock", () -> house.lock(0, 3, 1, 2));
        Check.due("4: the first one of another job", 1, () -> house.lock(1, 0, 0, 30));
    }

    /** Each job in turn has the lock 2 by its third stretch, behind its five moments from 0 on. */
    private static void promise4ThreeStretchesOfEachJob() {
        for (int holder = 0; holder < 11; holder++) {
            Slicehouse house = new Slicehouse();
            for (int job = 0; job < 12; job++) {
                house.job(job == holder ? 0 : 5, 6, 0, job == holder ? 1 : job == 11 ? 9 : 2);
                house.lock(job, 0, 0, 1);
                house.lock(job, 1, 2, 3);
                house.lock(job, 2, job == 11 ? 3 : 4, 6);
            }
            house.run(Slicehouse.RANKS);
            // The job 11 works its first three moments; the next one needs the lock 2, so that the next rank works.
            String due = holder == 0 ? "lllb" : "llla";
            Check.due("4: until the third stretch, by the job " + holder, due, () -> Check.story(house, 9).substring(5));
        }
    }

    private static void promise7TwelveJobsByEachRule() {
        Slicehouse house = twelve(0, 30);
        house.turns(1, 0, 0, 1, false);
        for (int number = Slicehouse.RING; number <= Slicehouse.RANKS; number++) {
            int rule = number;
            Check.due("7: 360 moments by " + rule, 360, () -> house.run(rule));
            Check.due("28: all of them worked", 1.0f, () -> house.workShare());
            Check.due("17: one busy stretch", 1, () -> house.busy(Slicehouse.NONE, false));
            Check.due("17: up to the end", 360, () -> house.busy(0, true));
        }
        house.run(Slicehouse.COMING);
        Check.due("12: one behind the other", 30 * 78, () -> house.sumOfEnds());
        Check.due("27: their mean", 195.0, () -> house.meanEnd());
        Check.due("16: the last one is the slowest", 12, () -> house.slowest(false));
        Check.due("10: all work at first", 360, () -> house.work(0));
        house.run(Slicehouse.RING);
        Check.due("12: in turn", 349 * 12 + 66, () -> house.sumOfEnds());
        Check.due("13: each other one between", 11, () -> house.waits(0));
        // With 15 they end in the second round, which begins at 180; it is later with more, and the third one with less.
        Check.due("20: the slice with which the last round begins early", 15, () -> house.best());
        Check.due("21: two at a time", 2 * 30 * 21, () -> house.two(true, false));
    }

    private static void promise7TheLongestRun() {
        Slicehouse house = twelve(99, 30);
        house.turns(1, 5, 99, 1, false);
        int length = 99 + 360 + 359 * 5;
        Check.due("7: the longest run", length, () -> house.run(Slicehouse.RING));
        Check.due("8: its last moment", 11, () -> house.running(length - 1));
        Check.due("8: behind its end", Slicehouse.IDLE, () -> house.running(length));
        Check.due("9: left ahead of its last moment", 1, () -> house.left(11, length - 1));
        Check.due("9: left behind it", 0, () -> house.left(11, length));
        Check.due("11: its last end", length, () -> house.end(11));
        Check.due("17: its busy stretch", 99, () -> house.busy(0, false));
        Check.due("17: and the end of it", length, () -> house.busy(0, true));
        Check.due("28: the moments of work", 360.0f / 2254.0f, () -> house.workShare());
        Check.due("29: errors", 0, () -> house.errors());
    }

    private static void promise18TheLongestRunsChecksum() {
        Slicehouse house = twelve(99, 30);
        house.turns(1, 5, 99, 1, false);
        house.run(Slicehouse.RING);
        int sum = 0;
        for (int moment = 0; moment < 99; moment++) {
            sum = 31 * sum + 3 + Slicehouse.IDLE;
        }
        for (int moment = 99; moment < 2254; moment++) {
            boolean isWork = (moment - 99) % 6 == 0;
            sum = 31 * sum + 3 + (isWork ? (moment - 99) / 6 % 12 : Slicehouse.CHANGES);
        }
        int due = sum;
        Check.due("18: of 2254 moments", due, () -> house.checksum());
    }

    private static void promise24FiveTasks() {
        Slicehouse house = new Slicehouse();
        for (int number = 0; number < 5; number++) {
            int task = number;
            Check.due("24: the number of the next task", task, () -> house.task(60, 30, 60));
        }
        Check.illegalState("24: a sixth", () -> house.task(1, 1, 1));
        Check.illegalArgument("24: a sixth, out of range", () -> house.task(1, 1, 2));
        Check.due("25: all five count", 5L, () -> house.load(false));
        Check.due("25: all five count", 2L, () -> house.load(true));
        Check.due("6: clear forgets no task", 0, () -> house.clear());
        Check.illegalState("24: a sixth, when jobs are cleared", () -> house.task(1, 1, 1));
    }

    private static void promise26FiveTasks() {
        Slicehouse house = new Slicehouse();
        for (int task = 0; task < 5; task++) {
            house.task(60, 12, 60);
        }
        for (int number = 0; number < 5; number++) {
            int task = number;
            Check.due("26: behind those with lower numbers", 12 * (task + 1), () -> house.response(task));
        }
        Check.outOfBounds("26: no sixth", () -> house.response(5));
        Slicehouse over = new Slicehouse();
        for (int task = 0; task < 5; task++) {
            over.task(59, 12, 59);
        }
        Check.due("26: the fourth is in time", 48, () -> over.response(3));
        Check.due("26: the fifth is later than its deadline", Slicehouse.NONE, () -> over.response(4));
    }

    /** A house is used for at most 512 calls: the last one of them answers as the first one. */
    private static void theLastPromisedCall() {
        Slicehouse house = twelve(99, 30);
        house.turns(1, 5, 99, 1, true);
        Check.due("7: the longest run", 2254, () -> house.run(Slicehouse.RING));
        for (int call = 12 + 2; call < MOST_CALLS - 1; call++) {
            Check.due("29: the dearest call, again and again", 0, () -> house.errors());
        }
        // The twelve jobs end 6 moments one behind the other.
        Check.due("12: the last promised call", 12 * 2254 - 6 * 66, () -> house.sumOfEnds());
    }
}
