import java.util.function.Function;
import java.util.function.Supplier;

/**
 * Each call that is refused: the exception that the document lists first where several apply, all that can be asked
 * afterwards as it was before, and all that is told later as in a house that never refused anything.
 */
public final class RefusedTest {
    /** A house in a state, with so many jobs and tasks, and so many moments about which it is asked. */
    private record State(String name, int jobs, int tasks, int moments, Supplier<Slicehouse> make) {
    }

    private static final int MOST_CALLS = 512;
    private static final int LOW = Integer.MIN_VALUE;
    private static final int HIGH = Integer.MAX_VALUE;
    private static final State NEW = new State("new", 0, 0, 3, Slicehouse::new);
    private static final State RUN_WITHOUT_JOBS = new State("run without jobs", 0, 0, 3, () -> ran(new Slicehouse(), Slicehouse.LOTS));
    private static final State TOLD = new State("told, not run", 3, 2, 9, RefusedTest::told);
    private static final State RAN = new State("run", 3, 2, 14, () -> ran(told(), Slicehouse.RANKS));
    private static final State WAITING = new State("run, one waits", 3, 2, 14, RefusedTest::waiting);
    private static final State PACKED = new State("packed", 12, 5, 3, RefusedTest::packed);

    private RefusedTest() {
    }

    public static void main(String[] args) {
        eachTurnShows();
        promise2Job();
        promise3After();
        promise4LockThatIsNotThere();
        promise4LockOutOfRange();
        promise5Turns();
        promise7Run();
        promises8To10Moments();
        promises11To15Jobs();
        callsThatNeedARun();
        promise16Slowest();
        promise17Busy();
        promise22IsFeasible();
        promise23Full();
        promise24Task();
        promise26Response();
        Check.end("RefusedTest");
    }

    private static Slicehouse told() {
        Slicehouse house = Houses.with(new int[] {0, 4, 9, 1}, new int[] {2, 3, 0, 5}, new int[] {1, 2, 5, 9});
        house.lock(0, 0, 0, 3);
        house.lock(2, 0, 0, 1);
        house.turns(1, 1, 3, 77, true);
        house.task(4, 1, 4);
        house.task(6, 2, 5);
        return house;
    }

    private static Slicehouse waiting() {
        Slicehouse house = told();
        house.after(2, 1);
        return ran(house, Slicehouse.SHARES);
    }

    private static Slicehouse packed() {
        Slicehouse house = new Slicehouse();
        for (int job = 0; job < 12; job++) {
            house.job(job / 4, job == 0 ? 6 : 1 + job % 3, 3 * job, 1 + job % 9);
        }
        house.lock(0, 0, 0, 1);
        house.lock(0, 1, 2, 4);
        house.lock(0, 0, 5, 6);
        house.lock(11, 1, 0, 2);
        for (int task = 0; task < 5; task++) {
            house.task(10 + task, 1 + task, 10);
        }
        house.turns(1, 1, 3, -5, true);
        return ran(house, Slicehouse.LEVELS);
    }

    private static Slicehouse ran(Slicehouse house, int rule) {
        house.run(rule);
        return house;
    }

    private static void refuse(State state, String exception, String call, Function<Slicehouse, Object> refused) {
        String what = state.name + ": " + call;
        Slicehouse house = state.make.get();
        String before = answers(house, state);
        Check.due(what, exception, () -> refused.apply(house));
        Check.due(what + ", asked afterwards", before, () -> answers(house, state));
        String future = Answers.future(state.make.get(), state.jobs);
        Check.due(what + ", told later", future, () -> Answers.future(house, state.jobs));
        long calls = 2 * before.lines().count() + future.lines().count() + 40;
        Check.due(what + ", fewer calls than are promised", true, () -> calls <= MOST_CALLS);
    }

    private static String answers(Slicehouse house, State state) {
        return Answers.of(house, state.jobs, state.tasks, state.moments);
    }

    /** If one of the turns changed, though the call is refused, some later run would tell it. */
    private static void eachTurnShows() {
        String future = Answers.future(told(), 3);
        Check.due("turns as before", future, () -> futureWith(1, 1, 3, 77, true));
        Check.due("another slice shows", false, () -> futureWith(9, 1, 3, 77, true).equals(future));
        Check.due("another cost shows", false, () -> futureWith(1, 5, 3, 77, true).equals(future));
        Check.due("another rise shows", false, () -> futureWith(1, 1, 9, 77, true).equals(future));
        Check.due("another seed shows", false, () -> futureWith(1, 1, 3, 4711, true).equals(future));
        Check.due("no lending shows", false, () -> futureWith(1, 1, 3, 77, false).equals(future));
    }

    private static String futureWith(int slice, int change, int rise, int seed, boolean lending) {
        Slicehouse house = told();
        house.turns(slice, change, rise, seed, lending);
        return Answers.future(house, 3).replace("turns -> " + slice, "turns -> 1");
    }

    private static void promise2Job() {
        for (State state : new State[] {TOLD, RAN, PACKED}) {
            int[][] wrong = {{-1, 1, 1, 1}, {100, 1, 1, 1}, {0, 0, 1, 1}, {0, 31, 1, 1}, {0, 1, -1, 1}, {0, 1, 401, 1},
                {0, 1, 1, 0}, {0, 1, 1, 10}, {LOW, HIGH, LOW, HIGH}, {HIGH, LOW, HIGH, LOW}};
            for (int[] told : wrong) {
                refuse(state, Check.ILLEGAL_ARGUMENT, "job " + told[0] + " " + told[1] + " " + told[2] + " " + told[3],
                        house -> house.job(told[0], told[1], told[2], told[3]));
            }
        }
        refuse(PACKED, Check.ILLEGAL_STATE, "a job with the least of all", house -> house.job(0, 1, 0, 1));
        refuse(PACKED, Check.ILLEGAL_STATE, "a job with the greatest of all", house -> house.job(99, 30, 400, 9));
    }

    private static void promise3After() {
        int[][] absent = {{3, 0}, {-1, 0}, {1, -1}, {2, 3}, {0, 3}, {3, 3}, {-1, -1}, {-2, -1}, {HIGH, 0}, {0, LOW}};
        for (int[] told : absent) {
            refuse(RAN, Check.OUT_OF_BOUNDS, "after " + told[0] + " " + told[1], house -> house.after(told[0], told[1]));
        }
        refuse(NEW, Check.OUT_OF_BOUNDS, "after, without jobs", house -> house.after(0, 0));
        refuse(PACKED, Check.OUT_OF_BOUNDS, "after, behind the last job", house -> house.after(12, 11));
        refuse(PACKED, Check.OUT_OF_BOUNDS, "after, for none behind the last job", house -> house.after(11, 12));
        int[][] notLower = {{0, 0}, {1, 1}, {2, 2}, {0, 1}, {0, 2}, {1, 2}};
        for (int[] told : notLower) {
            refuse(RAN, Check.ILLEGAL_ARGUMENT, "after " + told[0] + " " + told[1], house -> house.after(told[0], told[1]));
        }
        refuse(WAITING, Check.ILLEGAL_ARGUMENT, "after, the other way round", house -> house.after(1, 2));
    }

    private static void promise4LockThatIsNotThere() {
        int[][] absent = {{3, 0, 0, 1}, {-1, 0, 0, 1}, {HIGH, 0, 0, 1}, {LOW, 0, 0, 1}, {1, 3, 0, 1}, {1, -1, 0, 1},
            {1, HIGH, 0, 1}, {1, LOW, 0, 1}, {3, 3, 0, 1}, {3, 0, -1, 0}, {1, 3, 2, 2}, {1, -1, 0, 4}, {0, 3, 0, 3}};
        for (int[] told : absent) {
            refuseLock(RAN, Check.OUT_OF_BOUNDS, told);
        }
        refuseLock(NEW, Check.OUT_OF_BOUNDS, 0, 0, 0, 1);
        refuseLock(PACKED, Check.OUT_OF_BOUNDS, 12, 0, 0, 1);
        refuseLock(PACKED, Check.OUT_OF_BOUNDS, 0, 3, 4, 5);
    }

    private static void promise4LockOutOfRange() {
        int[][] wrong = {{1, 0, -1, 1}, {1, 0, LOW, 1}, {1, 0, 0, 0}, {1, 0, 3, 3}, {1, 0, 2, 1}, {1, 0, 1, LOW}, {1, 0, 0, 4},
            {1, 0, 3, 4}, {1, 0, 0, HIGH}, {1, 0, LOW, HIGH}, {0, 1, 0, 1}, {0, 1, 2, 3}, {0, 1, 2, 4}, {0, 1, 0, 4}};
        for (int[] told : wrong) {
            refuseLock(RAN, Check.ILLEGAL_ARGUMENT, told);
        }
        // The job 0 has three stretches; free are its moments 1 and 4.
        refuseLock(PACKED, Check.ILLEGAL_ARGUMENT, 0, 0, -1, 2);
        refuseLock(PACKED, Check.ILLEGAL_ARGUMENT, 0, 0, 1, 1);
        refuseLock(PACKED, Check.ILLEGAL_ARGUMENT, 0, 0, 4, 7);
        refuseLock(PACKED, Check.ILLEGAL_ARGUMENT, 0, 0, 1, 3);
        refuseLock(PACKED, Check.ILLEGAL_ARGUMENT, 0, 0, 5, 6);
        refuseLock(PACKED, Check.ILLEGAL_STATE, 0, 0, 1, 2);
        refuseLock(PACKED, Check.ILLEGAL_STATE, 0, 2, 4, 5);
    }

    private static void refuseLock(State state, String exception, int... told) {
        refuse(state, exception, "lock " + told[0] + " " + told[1] + " " + told[2] + " " + told[3],
                house -> house.lock(told[0], told[1], told[2], told[3]));
    }

    private static void promise5Turns() {
        int[][] wrong = {{0, 5, 9}, {21, 5, 9}, {9, -1, 9}, {9, 6, 9}, {9, 5, -1}, {9, 5, 100}, {LOW, HIGH, LOW}, {HIGH, LOW, HIGH}};
        for (State state : new State[] {NEW, TOLD, RAN}) {
            for (int[] told : wrong) {
                refuse(state, Check.ILLEGAL_ARGUMENT, "turns " + told[0] + " " + told[1] + " " + told[2],
                        house -> house.turns(told[0], told[1], told[2], 4711, false));
            }
        }
    }

    private static void promise7Run() {
        for (State state : new State[] {NEW, RUN_WITHOUT_JOBS, TOLD, RAN}) {
            for (int rule : new int[] {-1, 9, LOW, HIGH}) {
                refuse(state, Check.ILLEGAL_ARGUMENT, "run " + rule, house -> house.run(rule));
            }
        }
    }

    private static void promises8To10Moments() {
        for (State state : new State[] {NEW, TOLD, RAN, RUN_WITHOUT_JOBS}) {
            for (int moment : new int[] {-1, LOW}) {
                refuse(state, Check.ILLEGAL_ARGUMENT, "running " + moment, house -> house.running(moment));
                refuse(state, Check.ILLEGAL_ARGUMENT, "work " + moment, house -> house.work(moment));
                refuse(state, Check.OUT_OF_BOUNDS, "left 3 " + moment, house -> house.left(3, moment));
                refuse(state, Check.OUT_OF_BOUNDS, "left -1 " + moment, house -> house.left(-1, moment));
            }
            refuse(state, Check.OUT_OF_BOUNDS, "left 3 0", house -> house.left(3, 0));
            refuse(state, Check.OUT_OF_BOUNDS, "left -1 0", house -> house.left(-1, 0));
        }
        refuse(NEW, Check.OUT_OF_BOUNDS, "left 0 0", house -> house.left(0, 0));
        refuse(RUN_WITHOUT_JOBS, Check.OUT_OF_BOUNDS, "left 0 0", house -> house.left(0, 0));
        refuse(RAN, Check.ILLEGAL_ARGUMENT, "left 0 -1", house -> house.left(0, -1));
        refuse(TOLD, Check.ILLEGAL_ARGUMENT, "left 0 -1", house -> house.left(0, -1));
        refuse(TOLD, Check.ILLEGAL_ARGUMENT, "left 2 LOW", house -> house.left(2, LOW));
        refuse(TOLD, Check.ILLEGAL_STATE, "left 2 0", house -> house.left(2, 0));
        refuse(TOLD, Check.ILLEGAL_STATE, "running 0", house -> house.running(0));
        refuse(NEW, Check.ILLEGAL_STATE, "running HIGH", house -> house.running(HIGH));
        refuse(TOLD, Check.ILLEGAL_STATE, "work 0", house -> house.work(0));
        refuse(NEW, Check.ILLEGAL_STATE, "work HIGH", house -> house.work(HIGH));
    }

    private static void promises11To15Jobs() {
        for (int job : new int[] {-1, 3, LOW, HIGH}) {
            refuseJob(TOLD, Check.OUT_OF_BOUNDS, job);
            refuseJob(RAN, Check.OUT_OF_BOUNDS, job);
        }
        refuseJob(NEW, Check.OUT_OF_BOUNDS, 0);
        refuseJob(RUN_WITHOUT_JOBS, Check.OUT_OF_BOUNDS, 0);
        refuseJob(PACKED, Check.OUT_OF_BOUNDS, 12);
        refuseJob(TOLD, Check.ILLEGAL_STATE, 0);
        refuseJob(TOLD, Check.ILLEGAL_STATE, 2);
    }

    private static void refuseJob(State state, String exception, int job) {
        refuse(state, exception, "end " + job, house -> house.end(job));
        refuse(state, exception, "waits " + job, house -> house.waits(job));
        refuse(state, exception, "blocked " + job, house -> house.blocked(job));
        refuse(state, exception, "late " + job, house -> house.late(job));
    }

    private static void callsThatNeedARun() {
        for (State state : new State[] {NEW, TOLD}) {
            refuse(state, Check.ILLEGAL_STATE, "sumOfEnds", house -> house.sumOfEnds());
            refuse(state, Check.ILLEGAL_STATE, "checksum", house -> house.checksum());
            refuse(state, Check.ILLEGAL_STATE, "which", house -> house.which());
            refuse(state, Check.ILLEGAL_STATE, "meanEnd", house -> house.meanEnd());
            refuse(state, Check.ILLEGAL_STATE, "workShare", house -> house.workShare());
        }
    }

    private static void promise16Slowest() {
        for (State state : new State[] {NEW, TOLD, RUN_WITHOUT_JOBS}) {
            refuse(state, Check.ILLEGAL_STATE, "slowest above", house -> house.slowest(false));
            refuse(state, Check.ILLEGAL_STATE, "slowest below", house -> house.slowest(true));
        }
    }

    private static void promise17Busy() {
        for (int index : new int[] {LOW, -2, -1, 0, 1, HIGH}) {
            refuse(NEW, Check.ILLEGAL_STATE, "busy " + index, house -> house.busy(index, false));
            refuse(TOLD, Check.ILLEGAL_STATE, "busy to " + index, house -> house.busy(index, true));
        }
        for (int index : new int[] {LOW, -2, 1, HIGH}) {
            refuse(RAN, Check.NO_SUCH_ELEMENT, "busy " + index, house -> house.busy(index, false));
            refuse(RAN, Check.NO_SUCH_ELEMENT, "busy to " + index, house -> house.busy(index, true));
        }
        refuse(RUN_WITHOUT_JOBS, Check.NO_SUCH_ELEMENT, "busy 0", house -> house.busy(0, false));
        refuse(RUN_WITHOUT_JOBS, Check.NO_SUCH_ELEMENT, "busy to 0", house -> house.busy(0, true));
    }

    private static void promise22IsFeasible() {
        refuse(WAITING, Check.ILLEGAL_STATE, "isFeasible", house -> house.isFeasible());
    }

    private static void promise23Full() {
        for (State state : new State[] {NEW, TOLD, RAN}) {
            for (int what : new int[] {-1, 3, LOW, HIGH}) {
                refuse(state, Check.ILLEGAL_ARGUMENT, "full " + what, house -> house.full(what));
            }
        }
    }

    private static void promise24Task() {
        int[][] wrong = {{0, 1, 1}, {-1, 1, 1}, {61, 1, 1}, {9, 0, 1}, {60, 31, 60}, {9, 10, 10}, {9, 3, 2}, {9, 3, 10},
            {9, 1, 0}, {LOW, LOW, LOW}, {HIGH, HIGH, HIGH}, {9, LOW, 9}, {9, 1, HIGH}};
        for (State state : new State[] {NEW, RAN, PACKED}) {
            for (int[] told : wrong) {
                refuse(state, Check.ILLEGAL_ARGUMENT, "task " + told[0] + " " + told[1] + " " + told[2],
                        house -> house.task(told[0], told[1], told[2]));
            }
        }
        refuse(PACKED, Check.ILLEGAL_STATE, "the least task", house -> house.task(1, 1, 1));
        refuse(PACKED, Check.ILLEGAL_STATE, "the greatest task", house -> house.task(60, 30, 60));
    }

    private static void promise26Response() {
        for (int task : new int[] {-1, 2, LOW, HIGH}) {
            refuse(RAN, Check.OUT_OF_BOUNDS, "response " + task, house -> house.response(task));
        }
        refuse(NEW, Check.OUT_OF_BOUNDS, "response 0", house -> house.response(0));
        refuse(PACKED, Check.OUT_OF_BOUNDS, "response 5", house -> house.response(5));
    }
}
