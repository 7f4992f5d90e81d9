/** Promises 19 to 23: runs held against one another, and stretches that are too full. */
public final class HeldTest {
    private HeldTest() {
    }

    public static void main(String[] args) {
        promise19Which();
        promise20Best();
        promise21Two();
        promise22IsFeasible();
        promise23Full();
        promise23FullBeginsEarly();
        Check.end("HeldTest");
    }

    private static void promise19Which() {
        Slicehouse house = new Slicehouse();
        Check.illegalState("19: no run", () -> house.which());
        house.run(Slicehouse.LOTS);
        Check.due("19: without jobs", 511, () -> house.which());
        Slicehouse apart = Houses.with(Houses.due(0, 3, 9), Houses.due(1, 2, 2));
        Check.run("19: by RING", apart, Slicehouse.RING, "aabba");
        // LEVELS and SHARES give the same slices.
        Check.due("19: slices", 1 | 1 << 4 | 1 << 5, () -> apart.which());
        Check.run("19: by DEADLINE", apart, Slicehouse.DEADLINE, "abbaa");
        Check.due("19: the deadline alone", 1 << 6, () -> apart.which());
        Check.due("19: the latest run stays", "abbaa", () -> Check.story(apart, 5));
        apart.turns(3, 0, 20, 1, false);
        Check.run("19: by COMING", apart, Slicehouse.COMING, "aaabb");
        Check.due("19: with a slice of 3", 511 - (1 << 6), () -> apart.which());
        apart.turns(2, 3, 20, 1, false);
        Check.run("19: by RING", apart, Slicehouse.RING, "aa***bb***a");
        Check.due("19: with a cost", 1 | 1 << 4 | 1 << 5, () -> apart.which());
    }

    private static void promise20Best() {
        Slicehouse house = new Slicehouse();
        Check.due("20: without jobs", 1, () -> house.best());
        house.job(0, 20, 0, 1);
        Check.due("20: one job", 1, () -> house.best());
        house.job(0, 20, 0, 1);
        Check.due("20: a greatest slice", 20, () -> house.best());
        Check.illegalState("20: no run is made", () -> house.sumOfEnds());
        Check.due("20: the slice stays", 2, () -> house.turns(2, 0, 20, 1, false));
        Slicehouse small = Houses.with(Houses.job(0, 9), Houses.job(0, 1), Houses.job(0, 1));
        small.run(Slicehouse.COMING);
        Check.due("20: a least slice", 1, () -> small.best());
        Check.due("20: the latest run stays", "aaaaaaaaabc", () -> Check.story(small, 11));
        Slicehouse changing = Houses.with(Houses.job(0, 2), Houses.job(0, 2), Houses.job(0, 1));
        Check.due("20: without cost", 1, () -> Houses.with(Houses.job(0, 2), Houses.job(0, 1)).best());
        changing.turns(1, 5, 20, 1, false);
        Check.due("20: with the cost of changing", 2, () -> changing.best());
    }

    private static void promise21Two() {
        Slicehouse house = new Slicehouse();
        Check.due("21: without jobs", 0, () -> house.two(true, false));
        Check.due("21: without jobs", 0, () -> house.two(false, true));
        house.job(0, 4, 4, 1);
        house.job(0, 2, 6, 1);
        house.job(0, 2, 0, 1);
        house.turns(2, 5, 20, 1, false);
        // By LEAST LEFT b and c at 0 and 1, then a; by DEADLINE a to 4, b to 2 and c to 4.
        Check.due("21: least, sum", 2 + 2 + 6, () -> house.two(true, false));
        Check.due("21: least, late", 1, () -> house.two(true, true));
        Check.due("21: deadline, sum", 4 + 2 + 4, () -> house.two(false, false));
        Check.due("21: deadline, late", 0, () -> house.two(false, true));
        house.after(2, 1);
        house.job(9, 1, 9, 1);
        // By LEAST LEFT b, and a beside it, then c and a; d from 9 to 10.
        Check.due("21: waiting and coming", 4 + 2 + 4 + 10, () -> house.two(true, false));
        Check.due("21: late by one", 1, () -> house.two(true, true));
        Check.illegalState("21: no run is made", () -> house.sumOfEnds());
        house.run(Slicehouse.COMING);
        int sum = house.checksum();
        house.two(true, true);
        Check.due("21: the latest run stays", sum, () -> house.checksum());
        Slicehouse tied = Houses.with(Houses.due(0, 2, 3), Houses.due(0, 2, 2), Houses.due(0, 2, 3), Houses.due(0, 4, 2));
        // By LEAST LEFT a and b, then c and d, of which d ends at 6; by DEADLINE b and d, d and a, then c alone to 6.
        Check.due("21: of several the least numbers", 2 + 2 + 4 + 6, () -> tied.two(true, false));
        Check.due("21: of several the least numbers", 4 + 2 + 6 + 4, () -> tied.two(false, false));
        Slicehouse alone = Houses.with(Houses.job(3, 5));
        Check.due("21: one job, one worker", 8, () -> alone.two(false, false));
    }

    private static void promise22IsFeasible() {
        Slicehouse house = new Slicehouse();
        Check.due("22: without jobs", true, () -> house.isFeasible());
        house.job(0, 1, 2, 1);
        house.job(0, 1, 1, 1);
        house.turns(2, 5, 20, 1, false);
        house.run(Slicehouse.COMING);
        Check.due("22: as if changing cost nothing", true, () -> house.isFeasible());
        Check.due("22: the latest run stays", "a*****b", () -> Check.story(house, 7));
        house.job(1, 1, 2, 1);
        Check.due("22: too much", false, () -> house.isFeasible());
        house.after(2, 0);
        Check.illegalState("22: a job waits", () -> house.isFeasible());
        house.clear();
        house.job(50, 1, 9, 1);
        Check.due("22: a deadline ahead of its coming", false, () -> house.isFeasible());
    }

    private static void promise23Full() {
        Slicehouse house = new Slicehouse();
        Check.illegalArgument("23: what", () -> house.full(-1));
        Check.illegalArgument("23: what", () -> house.full(3));
        checkFull("23: without jobs", house, -1, -1, -1);
        house.job(2, 3, 5, 1);
        house.job(0, 30, 0, 1);
        checkFull("23: just full", house, -1, -1, -1);
        house.job(4, 2, 8, 1);
        house.job(4, 2, 8, 1);
        // From 2 to 8 there are 7, from 4 to 8 just 4; from 1 to 8 just 7.
        checkFull("23: too full", house, 2, 8, 7);
        house.job(6, 5, 10, 1);
        // From 0 to 10 there are 12.
        checkFull("23: the least beginning", house, 0, 10, 12);
        house.job(0, 5, 4, 1);
        checkFull("23: the least end", house, 0, 4, 5);
        Check.illegalState("23: no run is made", () -> house.sumOfEnds());
        house.after(1, 0);
        checkFull("23: waiting does not matter", house, 0, 4, 5);
    }

    private static void promise23FullBeginsEarly() {
        // No job comes at 6, but from 6 to 10 are 4 moments, and the job has 5.
        checkFull("23: a deadline ahead of its coming", Houses.with(Houses.due(50, 5, 10)), 6, 10, 5);
        checkFull("23: between comings", Houses.with(Houses.due(10, 6, 15), Houses.due(3, 1, 20)), 10, 15, 6);
        checkFull("23: ahead of the coming", Houses.with(Houses.due(10, 30, 20)), 0, 20, 30);
        checkFull("23: a stretch of no moment", Houses.with(Houses.due(5, 1, 4)), 4, 4, 1);
        checkFull("23: at the last coming", Houses.with(Houses.due(99, 30, 128)), 99, 128, 30);
        checkFull("23: no stretch", Houses.with(Houses.due(99, 30, 129)), -1, -1, -1);
    }

    private static void checkFull(String what, Slicehouse house, int from, int to, int work) {
        Check.due(what + ", beginning", from, () -> house.full(0));
        Check.due(what + ", end", to, () -> house.full(1));
        Check.due(what + ", work", work, () -> house.full(2));
    }
}
