/** Promises 1 to 6: a new object, and what is told of jobs and turns. */
public final class JobsTest {
    private JobsTest() {
    }

    public static void main(String[] args) {
        promise1NewObject();
        promise1NewTurns();
        promise2Job();
        promise3After();
        promise4Lock();
        promise4LockThatThrows();
        promise5Turns();
        promise5TurnsThatThrow();
        promise6Clear();
        jobsEndTheRun();
        failedJobsLeaveTheRun();
        Check.end("JobsTest");
    }

    private static void promise1NewObject() {
        Slicehouse house = new Slicehouse();
        Check.illegalState("1: sumOfEnds", () -> house.sumOfEnds());
        Check.outOfBounds("1: response", () -> house.response(0));
        Check.due("1: load above", 0L, () -> house.load(false));
        Check.due("1: load below", 1L, () -> house.load(true));
        Check.due("1: clear", 0, () -> house.clear());
        Check.due("1: turns", 2, () -> house.turns(5, 0, 0, 0, false));
    }

    private static void promise1NewTurns() {
        Check.run("1: slices of 2, no cost", Houses.twins(), Slicehouse.RING, "aabbab");
        Check.run("1: the seed 1", Houses.with(Houses.weighing(0, 4, 1), Houses.weighing(0, 4, 3), Houses.weighing(3, 4, 9)),
                Slicehouse.LOTS, "bbbbccccaaaa");
        // b is on the level 2 from 12 on and rises at 20: behind a job that came at 19, ahead of one that comes at 20.
        Check.run("1: a rise of 20", Houses.with(Houses.job(0, 30), Houses.job(0, 10), Houses.job(19, 1)),
                Slicehouse.LEVELS, "aabbaaaabbbbaaaaaaaacbbbbaaaaaaaaaaaaaaaa");
        Check.run("1: a rise of 20", Houses.with(Houses.job(0, 30), Houses.job(0, 10), Houses.job(20, 1)),
                Slicehouse.LEVELS, "aabbaaaabbbbaaaaaaaabbcbbaaaaaaaaaaaaaaaa");
        Slicehouse unlent = Houses.with(Houses.weighing(0, 4, 1), Houses.weighing(2, 3, 5), Houses.weighing(1, 2, 9));
        unlent.lock(0, 0, 0, 3);
        unlent.lock(2, 0, 0, 1);
        Check.run("1: without lending", unlent, Slicehouse.RANKS, "aabbbacca");
    }

    private static void promise2Job() {
        Slicehouse house = new Slicehouse();
        Check.illegalArgument("2: comes", () -> house.job(-1, 1, 0, 1));
        Check.illegalArgument("2: comes", () -> house.job(100, 1, 0, 1));
        Check.illegalArgument("2: length", () -> house.job(0, 0, 0, 1));
        Check.illegalArgument("2: length", () -> house.job(0, 31, 0, 1));
        Check.illegalArgument("2: deadline", () -> house.job(0, 1, -1, 1));
        Check.illegalArgument("2: deadline", () -> house.job(0, 1, 401, 1));
        Check.illegalArgument("2: weight", () -> house.job(0, 1, 0, 0));
        Check.illegalArgument("2: weight", () -> house.job(0, 1, 0, 10));
        Check.illegalArgument("2: all", () -> house.job(Integer.MIN_VALUE, Integer.MAX_VALUE, Integer.MIN_VALUE, -1));
        Check.due("2: least", 0, () -> house.job(0, 1, 0, 1));
        Check.due("2: greatest", 1, () -> house.job(99, 30, 400, 9));
        for (int number = 2; number < 12; number++) {
            Check.due("2: the next", number, () -> house.job(0, 1, 1, 1));
        }
        Check.illegalState("2: too many", () -> house.job(0, 1, 0, 1));
        Check.illegalArgument("2: too many, and out of range", () -> house.job(0, 0, 0, 1));
        Check.due("2: clear", 12, () -> house.clear());
    }

    private static void promise3After() {
        Slicehouse house = Houses.with(Houses.job(0, 2), Houses.job(0, 1), Houses.job(0, 1));
        Check.outOfBounds("3: job", () -> house.after(3, 0));
        Check.outOfBounds("3: job", () -> house.after(-1, 0));
        Check.outOfBounds("3: other", () -> house.after(1, -1));
        Check.outOfBounds("3: other, and not lower", () -> house.after(1, 3));
        Check.illegalArgument("3: itself", () -> house.after(1, 1));
        Check.illegalArgument("3: greater", () -> house.after(0, 2));
        Check.run("3: nothing waits yet", house, Slicehouse.SHORTEST, "bcaa");
        Check.due("3: first", 1, () -> house.after(2, 1));
        Check.due("3: again", 1, () -> house.after(2, 1));
        Check.due("3: second", 2, () -> house.after(2, 0));
        Check.due("3: another", 1, () -> house.after(1, 0));
        Check.run("3: they wait", house, Slicehouse.SHORTEST, "aabc");
        house.clear();
        house.job(0, 3, 0, 1);
        house.job(0, 1, 0, 1);
        Check.run("3: forgotten with the jobs", house, Slicehouse.SHORTEST, "baaa");
        Slicehouse late = Houses.with(Houses.job(3, 1), Houses.job(0, 1), Houses.job(0, 1));
        late.after(1, 0);
        Check.run("3: idle until it comes", late, Slicehouse.COMING, "c--ab");
    }

    private static void promise4Lock() {
        Slicehouse house = Houses.with(Houses.job(0, 5), Houses.job(0, 30));
        Check.due("4: one moment", 1, () -> house.lock(0, 0, 0, 1));
        Check.due("4: beside it", 2, () -> house.lock(0, 0, 1, 2));
        Check.due("4: to the end", 3, () -> house.lock(0, 2, 4, 5));
        Check.illegalState("4: too many", () -> house.lock(0, 1, 2, 3));
        Check.due("4: a whole job", 1, () -> house.lock(1, 1, 0, 30));
        house.clear();
        house.job(0, 3, 0, 1);
        Check.due("4: forgotten with the jobs", 1, () -> house.lock(0, 0, 0, 3));
    }

    private static void promise4LockThatThrows() {
        Slicehouse house = Houses.with(Houses.job(0, 5));
        Check.outOfBounds("4: job", () -> house.lock(1, 0, 0, 1));
        Check.outOfBounds("4: job", () -> house.lock(-1, 0, 0, 1));
        Check.outOfBounds("4: lock", () -> house.lock(0, 3, 0, 1));
        Check.outOfBounds("4: lock, and from", () -> house.lock(0, -1, -1, 1));
        Check.illegalArgument("4: from", () -> house.lock(0, 0, -1, 1));
        Check.illegalArgument("4: to", () -> house.lock(0, 0, 2, 2));
        Check.illegalArgument("4: to", () -> house.lock(0, 0, 2, 1));
        Check.illegalArgument("4: to above the length", () -> house.lock(0, 0, 2, 6));
        Check.illegalArgument("4: far numbers", () -> house.lock(0, 0, Integer.MIN_VALUE, Integer.MAX_VALUE));
        Check.due("4: the first", 1, () -> house.lock(0, 0, 1, 4));
        Check.illegalArgument("4: the same", () -> house.lock(0, 1, 1, 4));
        Check.illegalArgument("4: inside", () -> house.lock(0, 1, 2, 3));
        Check.illegalArgument("4: around", () -> house.lock(0, 1, 0, 5));
        Check.illegalArgument("4: its beginning", () -> house.lock(0, 1, 0, 2));
        Check.illegalArgument("4: its end", () -> house.lock(0, 1, 3, 5));
        Check.due("4: ahead", 2, () -> house.lock(0, 1, 0, 1));
        Check.due("4: behind", 3, () -> house.lock(0, 1, 4, 5));
        Check.illegalArgument("4: overlapping, and too many", () -> house.lock(0, 0, 0, 1));
        Check.due("4: only three count", 5, () -> house.run(Slicehouse.RANKS));
    }

    private static void promise5Turns() {
        Slicehouse house = Houses.twins();
        Check.due("5: before", 2, () -> house.turns(1, 0, 0, 0, false));
        Check.run("5: slices of 1", house, Slicehouse.RING, "ababab");
        Check.due("5: before", 1, () -> house.turns(20, 5, 99, Integer.MIN_VALUE, true));
        Check.run("5: a cost of 5", house, Slicehouse.RING, "aaa*****bbb");
        Check.due("5: before", 20, () -> house.turns(1, 0, 0, Integer.MAX_VALUE, true));
        Slicehouse lots = Houses.with(Houses.weighing(0, 4, 1), Houses.weighing(0, 4, 3), Houses.weighing(3, 4, 9));
        lots.turns(2, 0, 20, -7, false);
        Check.run("5: the seed -7", lots, Slicehouse.LOTS, "aabbccccbbaa");
        Check.run("5: the seed of the run at first", lots, Slicehouse.LOTS, "aabbccccbbaa");
        lots.turns(1, 0, 20, Integer.MIN_VALUE, false);
        Check.run("5: the least seed", lots, Slicehouse.LOTS, "aaaccbccbbba");
        Check.run("5: lending", Houses.inverted(0, true), Slicehouse.RANKS, "aaaccbbba");
        Slicehouse levels = Houses.with(Houses.job(0, 6), Houses.job(0, 6));
        levels.turns(1, 0, 4, 1, false);
        Check.run("5: a rise of 4", levels, Slicehouse.LEVELS, "abaabbbaaabb");
    }

    private static void promise5TurnsThatThrow() {
        Slicehouse house = Houses.twins();
        Check.illegalArgument("5: slice", () -> house.turns(0, 1, 1, 1, true));
        Check.illegalArgument("5: slice", () -> house.turns(21, 1, 1, 1, true));
        Check.illegalArgument("5: change", () -> house.turns(1, -1, 1, 1, true));
        Check.illegalArgument("5: change", () -> house.turns(1, 6, 1, 1, true));
        Check.illegalArgument("5: rise", () -> house.turns(1, 1, -1, 1, true));
        Check.illegalArgument("5: rise", () -> house.turns(1, 1, 100, 1, true));
        Check.run("5: nothing has changed", house, Slicehouse.RING, "aabbab");
    }

    private static void promise6Clear() {
        Slicehouse house = Houses.twins();
        house.turns(3, 2, 0, 1, false);
        house.task(4, 2, 3);
        Check.due("6: clear", 2, () -> house.clear());
        Check.due("6: again", 0, () -> house.clear());
        Check.outOfBounds("6: no job", () -> house.after(1, 0));
        Check.due("6: the first number again", 0, () -> house.job(0, 4, 0, 1));
        Check.due("6: the second one", 1, () -> house.job(0, 1, 0, 1));
        Check.run("6: what turns() told stays", house, Slicehouse.RING, "aaa**b**a");
        Check.due("6: tasks stay", 2, () -> house.response(0));
    }

    private static void jobsEndTheRun() {
        Check.Call[] calls = new Check.Call[5];
        Slicehouse house = Houses.with(Houses.job(0, 2), Houses.job(0, 2));
        calls[0] = () -> house.job(0, 1, 0, 1);
        calls[1] = () -> house.after(1, 0);
        calls[2] = () -> house.lock(0, 0, 0, 1);
        calls[3] = () -> house.turns(2, 0, 20, 1, false);
        calls[4] = () -> house.clear();
        for (Check.Call call : calls) {
            house.run(Slicehouse.RING);
            call.answer();
            Check.illegalState("no run any more", () -> house.running(0));
            Check.illegalState("no run any more", () -> house.which());
            Check.illegalState("no run any more", () -> house.workShare());
        }
    }

    private static void failedJobsLeaveTheRun() {
        Slicehouse house = Houses.twins();
        house.run(Slicehouse.RING);
        Check.illegalArgument("job", () -> house.job(0, 0, 0, 1));
        Check.illegalArgument("after", () -> house.after(0, 0));
        Check.outOfBounds("lock", () -> house.lock(0, 3, 0, 1));
        Check.illegalArgument("turns", () -> house.turns(0, 0, 0, 1, true));
        Check.illegalArgument("run", () -> house.run(9));
        Check.due("a task is told", 0, () -> house.task(1, 1, 1));
        Check.due("the run stays", "aabbab", () -> Check.story(house, 6));
    }
}
