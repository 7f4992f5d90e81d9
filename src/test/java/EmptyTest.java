import java.util.function.Consumer;

/** A house without a run, without jobs or without tasks: what each call tells of it. */
public final class EmptyTest {
    private EmptyTest() {
    }

    public static void main(String[] args) {
        withoutARun();
        withoutARunJobsAreTold();
        theRunEndsBehindEachTelling();
        theRunStaysBehindAllOthers();
        withoutJobsRunsAreEmpty();
        withoutJobsOtherCallsTell();
        withoutJobsNoneIsThere();
        withoutTasks();
        clearedIsAsNew();
        clearedForgetsWaitsAndLocks();
        Check.end("EmptyTest");
    }

    private static void needsARun(String what, Slicehouse house) {
        Check.illegalState(what + ", running", () -> house.running(0));
        Check.illegalState(what + ", work", () -> house.work(0));
        Check.illegalState(what + ", sumOfEnds", () -> house.sumOfEnds());
        Check.illegalState(what + ", slowest above", () -> house.slowest(false));
        Check.illegalState(what + ", slowest below", () -> house.slowest(true));
        Check.illegalState(what + ", how many are busy", () -> house.busy(Slicehouse.NONE, false));
        Check.illegalState(what + ", busy", () -> house.busy(0, false));
        Check.illegalState(what + ", checksum", () -> house.checksum());
        Check.illegalState(what + ", which", () -> house.which());
        Check.illegalState(what + ", meanEnd", () -> house.meanEnd());
        Check.illegalState(what + ", workShare", () -> house.workShare());
    }

    private static void jobNeedsARun(String what, Slicehouse house, int job) {
        Check.illegalState(what + ", left", () -> house.left(job, 0));
        Check.illegalState(what + ", end", () -> house.end(job));
        Check.illegalState(what + ", waits", () -> house.waits(job));
        Check.illegalState(what + ", blocked", () -> house.blocked(job));
        Check.illegalState(what + ", late", () -> house.late(job));
    }

    private static void withoutARun() {
        needsARun("a new house", new Slicehouse());
    }

    private static void withoutARunJobsAreTold() {
        Slicehouse house = Houses.with(Houses.due(0, 2, 2), Houses.due(0, 2, 3));
        needsARun("jobs are told", house);
        jobNeedsARun("jobs are told", house, 0);
        jobNeedsARun("jobs are told", house, 1);
        Check.due("20: best without a run", 2, () -> house.best());
        Check.due("21: two without a run", 4, () -> house.two(true, false));
        Check.due("22: isFeasible without a run", false, () -> house.isFeasible());
        Check.due("23: full without a run", 3, () -> house.full(1));
        Check.due("29: errors without a run", 0, () -> house.errors());
        needsARun("these make no run", house);
    }

    private static void theRunEndsBehindEachTelling() {
        theRunEnds("2: job", house -> house.job(0, 1, 0, 1));
        theRunEnds("3: after", house -> house.after(1, 0));
        theRunEnds("4: lock", house -> house.lock(0, 0, 0, 1));
        theRunEnds("5: turns, as they are", house -> house.turns(2, 0, 20, 1, false));
        Slicehouse told = Houses.twins();
        told.after(1, 0);
        told.run(Slicehouse.RING);
        told.after(1, 0);
        needsARun("3: after, told before", told);
        Slicehouse cleared = Houses.twins();
        cleared.run(Slicehouse.RING);
        cleared.clear();
        needsARun("6: clear", cleared);
        cleared.run(Slicehouse.RING);
        cleared.clear();
        needsARun("6: clear without jobs", cleared);
    }

    private static void theRunEnds(String what, Consumer<Slicehouse> telling) {
        Slicehouse house = Houses.twins();
        house.run(Slicehouse.RING);
        telling.accept(house);
        needsARun(what, house);
        jobNeedsARun(what, house, 0);
        house.run(Slicehouse.RING);
        Check.due(what + ", and a run again", 0, () -> house.running(0));
    }

    private static void theRunStaysBehindAllOthers() {
        Slicehouse house = Houses.twins();
        house.run(Slicehouse.RING);
        String before = Answers.of(house, 2, 0, 8);
        house.best();
        house.which();
        house.two(true, true);
        house.isFeasible();
        house.full(0);
        house.errors();
        Check.due("the latest run stays", before, () -> Answers.of(house, 2, 0, 8));
        house.task(2, 1, 2);
        house.response(0);
        house.load(true);
        Check.due("the latest run stays behind a task", "aabbab", () -> Check.story(house, 6));
    }

    private static void withoutJobsRunsAreEmpty() {
        for (int number = Slicehouse.RING; number <= Slicehouse.RANKS; number++) {
            int rule = number;
            Slicehouse house = new Slicehouse();
            Check.due("7: run without jobs by " + rule, 0, () -> house.run(rule));
            Check.due("8: running", Slicehouse.IDLE, () -> house.running(0));
            Check.due("10: work", 0, () -> house.work(0));
            Check.due("12: sumOfEnds", 0, () -> house.sumOfEnds());
            Check.illegalState("16: slowest above", () -> house.slowest(false));
            Check.illegalState("16: slowest below", () -> house.slowest(true));
            Check.due("17: no busy stretch", 0, () -> house.busy(Slicehouse.NONE, false));
            Check.noSuchElement("17: no first busy stretch", () -> house.busy(0, false));
            Check.noSuchElement("17: no end of it", () -> house.busy(0, true));
            Check.due("18: checksum", 0, () -> house.checksum());
            Check.due("19: which, all rules", 511, () -> house.which());
            Check.due("27: meanEnd", 0.0, () -> house.meanEnd());
            Check.due("28: workShare", 0.0f, () -> house.workShare());
        }
    }

    private static void withoutJobsOtherCallsTell() {
        Slicehouse house = new Slicehouse();
        Check.due("6: clear", 0, () -> house.clear());
        Check.due("20: best", 1, () -> house.best());
        for (int bits = 0; bits < 4; bits++) {
            boolean isLeast = (bits & 1) != 0;
            boolean isLate = (bits & 2) != 0;
            Check.due("21: two " + isLeast + " " + isLate, 0, () -> house.two(isLeast, isLate));
        }
        Check.due("22: isFeasible", true, () -> house.isFeasible());
        for (int number = 0; number < 3; number++) {
            int what = number;
            Check.due("23: full " + what, Slicehouse.NONE, () -> house.full(what));
        }
        Check.due("29: errors", 0, () -> house.errors());
    }

    private static void withoutJobsNoneIsThere() {
        Slicehouse house = new Slicehouse();
        for (int runs = 0; runs < 2; runs++) {
            Check.outOfBounds("3: after", () -> house.after(0, 0));
            Check.outOfBounds("4: lock", () -> house.lock(0, 0, 0, 1));
            Check.outOfBounds("9: left", () -> house.left(0, 0));
            Check.outOfBounds("11: end", () -> house.end(0));
            Check.outOfBounds("13: waits", () -> house.waits(0));
            Check.outOfBounds("14: blocked", () -> house.blocked(0));
            Check.outOfBounds("15: late", () -> house.late(0));
            house.run(Slicehouse.RANKS);
        }
    }

    private static void withoutTasks() {
        Slicehouse house = Houses.twins();
        Check.due("25: load above", 0L, () -> house.load(false));
        Check.due("25: load below", 1L, () -> house.load(true));
        Check.outOfBounds("26: response", () -> house.response(0));
        Check.outOfBounds("26: response", () -> house.response(-1));
        Check.due("24: the first number", 0, () -> house.task(3, 1, 3));
        Check.due("25: load above, of one", 1L, () -> house.load(false));
        Check.due("25: load below, of one", 3L, () -> house.load(true));
    }

    /** Twelve jobs with waits and locks are forgotten; two others are told, and nothing tells of the ones before. */
    private static void clearedIsAsNew() {
        for (int rule = Slicehouse.RING; rule <= Slicehouse.RANKS; rule++) {
            Slicehouse house = new Slicehouse();
            for (int job = 0; job < 12; job++) {
                house.job(job, 9 + job, 1 + job, 9 - job % 9);
                house.lock(job, job % 3, 0, 9);
            }
            for (int job = 1; job < 12; job++) {
                house.after(job, job - 1);
            }
            house.run(rule);
            house.errors();
            Check.due("6: clear of twelve", 12, () -> house.clear());
            Slicehouse fresh = new Slicehouse();
            tellTwo(house);
            tellTwo(fresh);
            house.run(rule);
            fresh.run(rule);
            Check.due("6: cleared, by rule " + rule, Answers.of(fresh, 2, 0, 9), () -> Answers.of(house, 2, 0, 9));
            Check.due("6: cleared, told later", Answers.future(fresh, 2), () -> Answers.future(house, 2));
        }
    }

    private static void tellTwo(Slicehouse house) {
        house.job(1, 3, 4, 1);
        house.job(2, 2, 0, 3);
    }

    private static void clearedForgetsWaitsAndLocks() {
        Slicehouse house = Houses.with(Houses.weighing(0, 3, 1), Houses.weighing(1, 1, 9));
        house.after(1, 0);
        house.lock(0, 0, 0, 3);
        house.lock(1, 0, 0, 1);
        house.clear();
        house.job(0, 3, 0, 1);
        house.job(1, 1, 0, 9);
        Check.run("6: neither waits nor locks", house, Slicehouse.RANKS, "abaa");
        Check.due("6: isFeasible, as none waits", true, () -> house.isFeasible());
        Check.due("6: the first stretch again", 1, () -> house.lock(0, 0, 0, 3));
        Check.due("6: waits for one again", 1, () -> house.after(1, 0));
    }
}
