/** The boundary cases that the promises name beside those of arguments: a test for each of their sentences. */
public final class EdgesTest {
    private EdgesTest() {
    }

    public static void main(String[] args) {
        promise2NumbersAreGivenAsTheyAreTold();
        promise3TheSameOneAgain();
        promise8BehindTheEnd();
        promise9ItsLengthIfItHasNotCome();
        promise10ThoseThatHaveCome();
        promise11EndsAndSums();
        promise13AheadOfTheFirstPiece();
        promise13BetweenTwoPieces();
        promise13ChangesAreNoPieces();
        promise14ALowerRankOfItsOwn();
        promise14ReadyAndBlocked();
        promise14ChangedToOne();
        promise15JustInTime();
        promise16WithoutACommonDivisor();
        promise16TheGreatestOne();
        promise17AsLongAsPossible();
        promise17ChangesAreNotIdle();
        promise19MomentByMoment();
        promise20OfSeveralTheLeast();
        promise20WithTheCost();
        promise21OneAlone();
        promise21OfSeveralTheLeastNumber();
        promise21JustInTime();
        promise21WithoutCost();
        promise22JustKept();
        promise22OnlyIfOneWaits();
        promise27AndPromise28Fractions();
        promise29Errors();
        Check.end("EdgesTest");
    }

    private static Slicehouse ran(Slicehouse house, int rule) {
        house.run(rule);
        return house;
    }

    /** "numbered from 0 as they are told" */
    private static void promise2NumbersAreGivenAsTheyAreTold() {
        Slicehouse house = new Slicehouse();
        Check.due("2: the first number", 0, () -> house.job(9, 1, 0, 1));
        Check.illegalArgument("2: refused", () -> house.job(0, 0, 0, 1));
        Check.due("2: the next number, for one that comes earlier", 1, () -> house.job(0, 1, 0, 9));
        house.run(Slicehouse.RING);
        Check.due("2: a number behind a run", 2, () -> house.job(0, 1, 0, 9));
        Check.due("6: how many there were", 3, () -> house.clear());
        Check.due("2: the first number again", 0, () -> house.job(0, 1, 0, 1));
        Check.due("6: how many there were", 1, () -> house.clear());
        Check.due("6: none", 0, () -> house.clear());
    }

    /** "Returns for how many jobs it waits." */
    private static void promise3TheSameOneAgain() {
        Slicehouse house = Houses.with(Houses.job(0, 1), Houses.job(0, 1), Houses.job(0, 1));
        Check.due("3: one", 1, () -> house.after(2, 0));
        Check.due("3: the same one", 1, () -> house.after(2, 0));
        Check.due("3: that one waits too, for itself", 1, () -> house.after(1, 0));
        Check.due("3: two", 2, () -> house.after(2, 1));
        Check.due("3: the first one again", 2, () -> house.after(2, 0));
    }

    /** "behind the end of the run IDLE" */
    private static void promise8BehindTheEnd() {
        Slicehouse house = ran(Houses.with(Houses.job(0, 2)), Slicehouse.RING);
        Check.due("8: the last moment", 0, () -> house.running(1));
        Check.due("8: the moment of the end", Slicehouse.IDLE, () -> house.running(2));
        Check.due("8: behind the end", Slicehouse.IDLE, () -> house.running(3));
        Check.due("8: behind each run", Slicehouse.IDLE, () -> house.running(5000));
        Slicehouse shorter = Houses.with(Houses.job(0, 30));
        shorter.run(Slicehouse.RING);
        shorter.clear();
        shorter.job(0, 1, 0, 1);
        shorter.run(Slicehouse.RING);
        Check.due("8: nothing is left of a longer run", Slicehouse.IDLE, () -> shorter.running(1));
        Check.due("9: nor of its work", 0, () -> shorter.left(0, 30));
    }

    /** "Returns the work; its length if it had not come yet." */
    private static void promise9ItsLengthIfItHasNotCome() {
        Slicehouse house = ran(Houses.with(Houses.job(2, 3)), Slicehouse.RING);
        int[] due = {3, 3, 3, 2, 1, 0, 0};
        for (int number = 0; number < due.length; number++) {
            int moment = number;
            Check.due("9: left at the beginning of " + moment, due[moment], () -> house.left(0, moment));
        }
    }

    /** "of all jobs that had come (then or earlier)" */
    private static void promise10ThoseThatHaveCome() {
        Slicehouse house = ran(Houses.with(Houses.job(2, 3), Houses.job(3, 30), Houses.job(99, 1)), Slicehouse.COMING);
        int[] due = {0, 0, 3, 32, 31, 30, 29};
        for (int number = 0; number < due.length; number++) {
            int moment = number;
            Check.due("10: work at the beginning of " + moment, due[moment], () -> house.work(moment));
        }
        Check.due("10: just ahead of the last coming", 0, () -> house.work(98));
        Check.due("10: at the last coming", 1, () -> house.work(99));
        Check.due("10: at the end", 0, () -> house.work(100));
    }

    private static void promise11EndsAndSums() {
        Slicehouse house = ran(Houses.with(Houses.job(99, 1), Houses.job(0, 1)), Slicehouse.SHORTEST);
        Check.due("11: the last one ends with the run", 100, () -> house.end(0));
        Check.due("11: the first one ends at 1", 1, () -> house.end(1));
        Check.due("12: their sum", 101, () -> house.sumOfEnds());
        Check.due("7: the moment at which the run ends", 100, () -> house.run(Slicehouse.SHORTEST));
    }

    /** "between the moment at which it became ready and its first piece" */
    private static void promise13AheadOfTheFirstPiece() {
        Slicehouse house = Houses.with(Houses.job(0, 3), Houses.job(1, 2), Houses.job(5, 1));
        house.run(Slicehouse.COMING);
        Check.due("13: not at all", 0, () -> house.waits(0));
        Check.due("13: from its coming", 2, () -> house.waits(1));
        Check.due("13: not ahead of its coming", 0, () -> house.waits(2));
        house.after(2, 1);
        house.after(1, 0);
        house.run(Slicehouse.COMING);
        Check.due("13: not while it waits for another one", 0, () -> house.waits(1));
    }

    /** "and between two of its pieces" */
    private static void promise13BetweenTwoPieces() {
        Slicehouse house = Houses.with(Houses.weighing(1, 4, 1), Houses.weighing(0, 2, 5), Houses.weighing(3, 3, 9), Houses.weighing(7, 1, 8));
        Check.run("13: by RANKS", house, Slicehouse.RANKS, "bbacccadaa");
        Check.due("13: the second one of three", 3, () -> house.waits(0));
        Slicehouse first = Houses.with(Houses.weighing(1, 2, 1), Houses.weighing(0, 5, 5), Houses.weighing(6, 3, 9));
        Check.run("13: by RANKS", first, Slicehouse.RANKS, "bbbbbaccca");
        Check.due("13: the first one of two", 4, () -> first.waits(0));
        Slicehouse last = Houses.with(Houses.weighing(0, 3, 1), Houses.weighing(1, 1, 5), Houses.weighing(3, 4, 9));
        Check.run("13: by RANKS", last, Slicehouse.RANKS, "abacccca");
        Check.due("13: the last one of two", 4, () -> last.waits(0));
    }

    /** "A piece is a row of moments one behind the other at which the worker works at it." */
    private static void promise13ChangesAreNoPieces() {
        Slicehouse house = Houses.with(Houses.job(0, 2), Houses.job(0, 1));
        house.turns(1, 5, 0, 1, false);
        Check.run("13: with a cost", house, Slicehouse.RING, "a*****b*****a");
        Check.due("13: two changes and a moment of work", 11, () -> house.waits(0));
        Check.due("13: a moment of work and a change", 6, () -> house.waits(1));
    }

    private static Slicehouse locked(int[]... jobs) {
        Slicehouse house = Houses.with(jobs);
        for (int job = 0; job < jobs.length; job++) {
            house.lock(job, 0, 0, jobs[job][1]);
        }
        return house;
    }

    /** "the worker worked at a job with a lower rank of its own" */
    private static void promise14ALowerRankOfItsOwn() {
        Slicehouse house = locked(Houses.weighing(0, 4, 1), Houses.weighing(1, 1, 9), Houses.weighing(1, 1, 5));
        house.turns(1, 0, 0, 1, true);
        Check.run("14: two are blocked", house, Slicehouse.RANKS, "aaaabc");
        Check.due("14: the one that lends its rank", 3, () -> house.blocked(1));
        Check.due("14: the other one too, as a has the rank 1 of its own", 3, () -> house.blocked(2));
        Check.due("14: who has the lock", 0, () -> house.blocked(0));
        Slicehouse equal = locked(Houses.weighing(0, 3, 5), Houses.weighing(1, 1, 5), Houses.weighing(1, 1, 6), Houses.weighing(1, 1, 4));
        Check.run("14: the own ranks 4, 5 and 6", equal, Slicehouse.RANKS, "aaacbd");
        Check.due("14: not by as great a rank", 0, () -> equal.blocked(1));
        Check.due("14: by a lower rank", 2, () -> equal.blocked(2));
        Check.due("14: not by a greater rank", 0, () -> equal.blocked(3));
    }

    /** "it was ready and blocked" */
    private static void promise14ReadyAndBlocked() {
        Slicehouse late = locked(Houses.weighing(0, 3, 1), Houses.weighing(2, 1, 9));
        late.run(Slicehouse.RANKS);
        Check.due("14: from its coming on", 1, () -> late.blocked(1));
        Slicehouse behind = locked(Houses.weighing(0, 3, 1), Houses.weighing(3, 1, 9));
        behind.run(Slicehouse.RANKS);
        Check.due("14: it comes when the lock is free", 0, () -> behind.blocked(1));
        Slicehouse waiting = locked(Houses.weighing(0, 3, 1), Houses.weighing(0, 1, 9));
        waiting.after(1, 0);
        waiting.run(Slicehouse.RANKS);
        Check.due("14: not while it waits for another one", 0, () -> waiting.blocked(1));
        for (int number = Slicehouse.RING; number < Slicehouse.RANKS; number++) {
            int rule = number;
            late.run(rule);
            Check.due("14: 0 by the rule " + rule, 0, () -> late.blocked(1));
        }
    }

    /** "(or changed to one)" */
    private static void promise14ChangedToOne() {
        Slicehouse house = Houses.with(Houses.weighing(0, 3, 1), Houses.weighing(1, 2, 4), Houses.weighing(1, 2, 9));
        house.lock(0, 0, 0, 3);
        house.lock(2, 0, 0, 1);
        house.turns(1, 2, 0, 1, false);
        Check.run("14: with a cost", house, Slicehouse.RANKS, "a**bb**aa**cc");
        Check.due("14: all moments but the change to itself", 8, () -> house.blocked(2));
        Slicehouse free = Houses.with(Houses.weighing(0, 1, 5), Houses.weighing(0, 1, 1), Houses.weighing(2, 1, 9));
        free.turns(1, 3, 0, 1, false);
        Check.run("14: no locks", free, Slicehouse.RANKS, "a***b***c");
        Check.due("14: it waits, but is not blocked", 0, () -> free.blocked(2));
    }

    /** "its end less its deadline, but not below 0; 0 without a deadline" */
    private static void promise15JustInTime() {
        Slicehouse house = ran(Houses.with(Houses.due(0, 2, 3), Houses.due(0, 2, 4), Houses.due(0, 2, 5), Houses.due(0, 2, 0)), Slicehouse.COMING);
        Check.due("15: earlier than its deadline", 0, () -> house.late(0));
        Check.due("15: at its deadline", 0, () -> house.late(1));
        Check.due("15: one later", 1, () -> house.late(2));
        Check.due("15: without a deadline", 0, () -> house.late(3));
        Slicehouse ahead = ran(Houses.with(Houses.due(99, 1, 1)), Slicehouse.COMING);
        Check.due("15: a deadline ahead of its coming", 99, () -> ahead.late(0));
    }

    private static void slowest(String what, Slicehouse house, int above, int below) {
        house.run(Slicehouse.COMING);
        Check.due("16: " + what + ", above", above, () -> house.slowest(false));
        Check.due("16: " + what + ", below", below, () -> house.slowest(true));
    }

    /** "as a fraction without a common divisor" */
    private static void promise16WithoutACommonDivisor() {
        slowest("one job is not stretched", Houses.with(Houses.job(7, 30)), 1, 1);
        slowest("13 / 10", Houses.with(Houses.job(0, 3), Houses.job(0, 10)), 13, 10);
        slowest("12 / 9", Houses.with(Houses.job(0, 3), Houses.job(0, 9)), 4, 3);
        slowest("60 / 30", Houses.with(Houses.job(0, 30), Houses.job(0, 30)), 2, 1);
        slowest("31 / 1", Houses.with(Houses.job(0, 30), Houses.job(0, 1)), 31, 1);
    }

    /** "the greatest stretch of all jobs" */
    private static void promise16TheGreatestOne() {
        // 3 / 3, 4 / 2 and 5 / 1: the first, the second and the third job in turn.
        slowest("the last one", Houses.with(Houses.job(0, 3), Houses.job(1, 2), Houses.job(1, 1)), 5, 1);
        slowest("the first one", Houses.with(Houses.job(1, 1), Houses.job(0, 3), Houses.job(2, 2)), 3, 1);
        slowest("as great as another one", Houses.with(Houses.job(0, 2), Houses.job(0, 2), Houses.job(0, 4)), 2, 1);
        slowest("greater by little, 26 / 17 and 46 / 30", Houses.with(Houses.job(0, 9), Houses.job(0, 17), Houses.job(10, 30)), 23, 15);
    }

    /** "rows of moments, as long as possible, at which the worker is not idle" */
    private static void promise17AsLongAsPossible() {
        Slicehouse house = Houses.with(Houses.job(0, 1), Houses.job(1, 1), Houses.job(3, 2));
        house.run(Slicehouse.COMING);
        Check.due("17: two jobs in one", 2, () -> house.busy(Slicehouse.NONE, false));
        Check.due("17: the first one begins at 0", 0, () -> house.busy(0, false));
        Check.due("17: up to the idle moment", 2, () -> house.busy(0, true));
        Check.due("17: behind the idle moment", 3, () -> house.busy(1, false));
        Check.due("17: up to the end of the run", 5, () -> house.busy(1, true));
        Check.noSuchElement("17: there are two", () -> house.busy(2, true));
    }

    private static void promise17ChangesAreNotIdle() {
        Slicehouse house = Houses.with(Houses.job(0, 1), Houses.job(4, 1));
        house.turns(1, 4, 0, 1, false);
        Check.run("17: with a cost", house, Slicehouse.COMING, "a---****b");
        Check.due("17: two", 2, () -> house.busy(Slicehouse.NONE, true));
        Check.due("17: from the first change", 4, () -> house.busy(1, false));
        Check.due("17: to the end", 9, () -> house.busy(1, true));
        Slicehouse together = Houses.with(Houses.job(0, 1), Houses.job(1, 1));
        together.turns(1, 4, 0, 1, false);
        Check.run("17: with a cost", together, Slicehouse.COMING, "a****b");
        Check.due("17: one", 1, () -> together.busy(Slicehouse.NONE, true));
        Check.due("17: of all moments", 6, () -> together.busy(0, true));
    }

    /** "the rules by which a run would be, moment by moment, as the latest one" */
    private static void promise19MomentByMoment() {
        // The runs differ in their last moments alone, or in their first ones alone.
        Slicehouse house = Houses.with(Houses.due(0, 4, 9), Houses.due(2, 2, 9), Houses.due(2, 2, 8));
        Check.run("19: by SHORTEST", house, Slicehouse.SHORTEST, "aaaabbcc");
        Check.due("19: COMING and LEAST LEFT too", 0b1110, () -> house.which() & 0b1001111);
        Check.run("19: by DEADLINE", house, Slicehouse.DEADLINE, "aaccaabb");
        Check.due("19: DEADLINE alone", 1 << Slicehouse.DEADLINE, () -> house.which());
        Slicehouse one = Houses.with(Houses.job(5, 30));
        one.turns(1, 5, 1, 9, true);
        for (int rule = Slicehouse.RING; rule <= Slicehouse.RANKS; rule++) {
            one.run(rule);
            Check.due("19: one job, all rules", 511, () -> one.which());
        }
        Slicehouse shorter = ran(Houses.with(Houses.job(9, 1)), Slicehouse.RING);
        shorter.clear();
        shorter.job(0, 2, 0, 1);
        shorter.run(Slicehouse.RING);
        Check.due("19: nothing is left of a longer run", 511, () -> shorter.which());
    }

    /** "Returns the slice, of several the least one" */
    private static void promise20OfSeveralTheLeast() {
        Check.due("20: one job", 1, () -> Houses.with(Houses.job(0, 30)).best());
        Check.due("20: from 3 on", 3, () -> Houses.with(Houses.job(0, 3), Houses.job(0, 3)).best());
        Check.due("20: the greatest slice", 20, () -> Houses.with(Houses.job(0, 20), Houses.job(0, 20)).best());
        // The first one ends at 21, and a slice later for each round ahead of its last one: with 11 that is the least.
        Check.due("20: one round ahead of the last one", 11, () -> Houses.with(Houses.job(0, 21), Houses.job(0, 21)).best());
    }

    private static void promise20WithTheCost() {
        Slicehouse house = Houses.with(Houses.job(0, 3), Houses.job(0, 1), Houses.job(0, 1));
        Check.due("20: without a cost", 1, () -> house.best());
        house.turns(7, 1, 0, 1, false);
        // With 1: a*b*c*aa, ends 8, 3 and 5; with 3: aaa*b*c, ends 3, 5 and 7.
        Check.due("20: with a cost of 1", 3, () -> house.best());
        Check.due("20: the slice stays", 7, () -> house.turns(1, 0, 0, 1, false));
    }

    private static void two(String what, Slicehouse house, boolean isLeast, int sum, int late) {
        Check.due("21: " + what + ", the sum of ends", sum, () -> house.two(isLeast, false));
        Check.due("21: " + what + ", how many are late", late, () -> house.two(isLeast, true));
    }

    /** "two ready jobs (or one, if there is one alone) work" */
    private static void promise21OneAlone() {
        two("one job", Houses.with(Houses.due(0, 5, 5)), true, 5, 0);
        two("one job", Houses.with(Houses.due(0, 5, 4)), false, 5, 1);
        Slicehouse house = Houses.with(Houses.due(0, 1, 1), Houses.due(0, 1, 1));
        two("two jobs", house, true, 2, 0);
        house.after(1, 0);
        two("one waits for the other", house, true, 3, 1);
        two("one waits for the other", house, false, 3, 1);
        two("idle ahead and between", Houses.with(Houses.due(3, 1, 4), Houses.due(9, 2, 0), Houses.due(9, 1, 9)), true, 4 + 11 + 10, 1);
    }

    /** "chosen by LEAST LEFT or DEADLINE, one behind the other" */
    private static void promise21OfSeveralTheLeastNumber() {
        two("as much left", Houses.with(Houses.due(0, 2, 2), Houses.due(0, 2, 2), Houses.due(0, 2, 4)), true, 8, 0);
        two("as much left", Houses.with(Houses.due(0, 2, 4), Houses.due(0, 2, 2), Houses.due(0, 2, 2)), true, 8, 1);
        two("the same deadline", Houses.with(Houses.due(0, 2, 2), Houses.due(0, 1, 2), Houses.due(0, 1, 2)), false, 5, 0);
        two("the same deadline", Houses.with(Houses.due(0, 1, 2), Houses.due(0, 1, 2), Houses.due(0, 2, 2)), false, 5, 1);
        two("no deadline", Houses.with(Houses.due(0, 1, 0), Houses.due(0, 2, 0), Houses.due(0, 3, 400)), false, 1 + 3 + 3, 0);
        two("the least left goes on", Houses.with(Houses.due(0, 3, 0), Houses.due(0, 3, 0), Houses.due(1, 2, 0), Houses.due(2, 1, 0)), true, 3 + 5 + 4 + 3, 0);
    }

    /** "the number of jobs that end later than their deadlines" */
    private static void promise21JustInTime() {
        two("at the deadlines", Houses.with(Houses.due(0, 3, 3), Houses.due(0, 2, 2)), true, 5, 0);
        two("one later", Houses.with(Houses.due(0, 3, 2), Houses.due(0, 2, 1)), true, 5, 2);
        two("without deadlines", Houses.with(Houses.due(0, 30, 0), Houses.due(0, 30, 0)), true, 60, 0);
    }

    /** "without cost of changing" */
    private static void promise21WithoutCost() {
        Slicehouse house = Houses.with(Houses.due(0, 1, 1), Houses.due(0, 2, 2), Houses.due(1, 1, 2), Houses.due(2, 1, 3));
        house.turns(1, 5, 0, 1, false);
        two("as if changing cost nothing", house, true, 1 + 2 + 2 + 3, 0);
        two("as if changing cost nothing", house, false, 1 + 2 + 2 + 3, 0);
    }

    private static void promise22JustKept() {
        Check.due("22: at its deadline", true, () -> Houses.with(Houses.due(9, 5, 14)).isFeasible());
        Check.due("22: one too early", false, () -> Houses.with(Houses.due(9, 5, 13)).isFeasible());
        Check.due("22: without deadlines", true, () -> Houses.with(Houses.due(0, 30, 0), Houses.due(0, 30, 0)).isFeasible());
        Check.due("22: two at theirs", true, () -> Houses.with(Houses.due(0, 2, 5), Houses.due(1, 3, 4)).isFeasible());
        Check.due("22: one late by one", false, () -> Houses.with(Houses.due(0, 2, 5), Houses.due(1, 4, 5)).isFeasible());
    }

    /** "Throws IllegalStateException if a job waits for another one" */
    private static void promise22OnlyIfOneWaits() {
        for (int number = 1; number < 12; number++) {
            int job = number;
            Slicehouse house = new Slicehouse();
            for (int told = 0; told < 12; told++) {
                house.job(0, 1, 12, 1);
            }
            Check.due("22: none waits", true, () -> house.isFeasible());
            house.after(job, job - 1);
            Check.illegalState("22: the job " + job + " waits", () -> house.isFeasible());
        }
    }

    private static void promise27AndPromise28Fractions() {
        Slicehouse house = Houses.with(Houses.job(1, 1), Houses.job(0, 2), Houses.job(6, 4));
        house.run(Slicehouse.COMING);
        // b ends at 2, a at 3, c at 10.
        Check.due("27: converted to double, then divided", 5.0, () -> house.meanEnd());
        Check.due("28: converted to float, then divided", 0.7f, () -> house.workShare());
        Slicehouse thirds = Houses.with(Houses.job(2, 1), Houses.job(2, 1), Houses.job(2, 1));
        thirds.turns(1, 2, 0, 1, false);
        Check.run("28: idle and changing", thirds, Slicehouse.RING, "--a**b**c");
        Check.due("27: (3 + 6 + 9) / 3", 6.0, () -> thirds.meanEnd());
        Check.due("28: 3 of 9", 3.0f / 9.0f, () -> thirds.workShare());
        Slicehouse sevenths = Houses.with(Houses.job(0, 1), Houses.job(0, 1), Houses.job(0, 5));
        sevenths.run(Slicehouse.COMING);
        Check.due("27: 10 / 3", 3.3333333333333335, () -> sevenths.meanEnd());
    }

    /** "Returns how many of these things are not so; always 0." */
    private static void promise29Errors() {
        Check.due("29: a deadline that is just kept", 0, () -> Houses.with(Houses.due(0, 5, 5)).errors());
        Check.due("29: one that is not", 0, () -> Houses.with(Houses.due(0, 6, 5)).errors());
        Check.due("29: one ahead of its coming", 0, () -> Houses.with(Houses.due(99, 1, 1)).errors());
        Check.due("29: one job", 0, () -> Houses.with(Houses.job(99, 30)).errors());
        for (int slice = 1; slice <= 20; slice++) {
            Slicehouse house = locked(Houses.weighing(0, 30, 1), Houses.weighing(5, 30, 1), Houses.weighing(9, 30, 9));
            house.turns(slice, 5, slice % 3, slice, slice % 2 == 0);
            Check.due("29: a slice of " + slice, 0, () -> house.errors());
        }
    }
}
