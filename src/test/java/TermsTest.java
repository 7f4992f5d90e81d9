/** The boundary cases that the document's terms name: a test for each of their sentences. */
public final class TermsTest {
    private TermsTest() {
    }

    public static void main(String[] args) {
        jobsEnd();
        jobsAreReadyWhenTheyHaveCome();
        jobsAreReadyWhenAllOthersHaveEnded();
        jobsBecomeReadyAtTheFirstSuchMoment();
        changingCostsNothingAtFirst();
        changingCostsForAnotherJobAlone();
        whatWasChosenStaysChosen();
        idleIfNoneIsReady();
        ringTakesASliceOrToTheEnd();
        comingTakesTheFirstToCome();
        shortestIsNotInterrupted();
        levelsHaveThreeSlices();
        levelsLowestIsTaken();
        levelsRiseInThisOrder();
        levelsRiseGoesOnlyByItsMoments();
        sharesOfAComer();
        sharesOfAComerInASlice();
        deadlineNoneIsLaterThanAll();
        locksAreHeldFromTheFirstMomentToTheLast();
        lendingAgainstEqualRanks();
        lendingIsOfTheGreatest();
        lendingIsOfReadyJobsAlone();
        lendingIsToWhoHasTheLock();
        stretchesThatAreJustFull();
        stretchesAtTheMomentsThatBoundThem();
        stretchesFirstOfSeveral();
        responsesRoundedUp();
        responsesAtTheDeadline();
        responsesOfThoseThatGoAhead();
        loadWithoutACommonDivisor();
        Check.end("TermsTest");
    }

    private static void runsByAll(String what, Slicehouse house, String due) {
        for (int rule = Slicehouse.RING; rule <= Slicehouse.RANKS; rule++) {
            Check.run(what, house, rule, due);
        }
    }

    private static Slicehouse sliced(int slice, int[]... jobs) {
        Slicehouse house = Houses.with(jobs);
        house.turns(slice, 0, 0, 1, false);
        return house;
    }

    /** "A job has ended at the moment behind its last one of work; its end is the number of that moment." */
    private static void jobsEnd() {
        Slicehouse house = Houses.with(Houses.job(0, 1), Houses.job(0, 2), Houses.job(7, 1));
        house.run(Slicehouse.COMING);
        Check.due("the end of a job of the moment 0", 1, () -> house.end(0));
        Check.due("the end of a job of two moments", 3, () -> house.end(1));
        Check.due("the end behind idle moments", 8, () -> house.end(2));
        Slicehouse waiting = Houses.with(Houses.job(0, 1), Houses.job(0, 1));
        waiting.after(1, 0);
        runsByAll("it has ended at the very next moment", waiting, "ab");
    }

    /** "It is ready at a moment if it has come (then or earlier), has work left .." */
    private static void jobsAreReadyWhenTheyHaveCome() {
        runsByAll("it has come then", Houses.with(Houses.job(3, 2)), "---aa");
        Slicehouse earlier = Houses.with(Houses.job(0, 3), Houses.job(1, 2));
        earlier.after(1, 0);
        runsByAll("it has come earlier", earlier, "aaabb");
    }

    /** ".. and all jobs for which it waits have ended (then or earlier)." */
    private static void jobsAreReadyWhenAllOthersHaveEnded() {
        Slicehouse house = Houses.with(Houses.job(0, 1), Houses.job(4, 1));
        house.after(1, 0);
        runsByAll("the other has ended earlier", house, "a---b");
        Slicehouse both = Houses.with(Houses.due(0, 2, 9), Houses.due(0, 3, 8), Houses.due(0, 1, 1));
        both.after(2, 0);
        both.after(2, 1);
        Check.run("one of two is not enough", both, Slicehouse.SHORTEST, "aabbbc");
        Check.run("nor is the other one", both, Slicehouse.DEADLINE, "bbbaac");
        Slicehouse chain = Houses.with(Houses.job(0, 2), Houses.job(0, 2), Houses.job(0, 2));
        chain.after(1, 0);
        chain.after(2, 1);
        runsByAll("a chain", chain, "aabbcc");
    }

    /** "It becomes ready at the first moment at which it is ready": then it comes to a row, and waits. */
    private static void jobsBecomeReadyAtTheFirstSuchMoment() {
        Slicehouse house = sliced(2, Houses.job(0, 2), Houses.job(0, 2), Houses.job(1, 2));
        house.after(1, 0);
        Check.run("behind one that became ready earlier", house, Slicehouse.RING, "aaccbb");
        Check.due("13: from then on", 2, () -> house.waits(1));
        Check.run("behind one that became ready earlier", house, Slicehouse.LEVELS, "aaccbb");
        Slicehouse both = sliced(1, Houses.job(0, 1), Houses.job(1, 2), Houses.job(0, 2));
        both.after(2, 0);
        Check.run("one comes and one waits no more, by their numbers", both, Slicehouse.RING, "abcbc");
        Check.due("13: ready at 1, worked at from 1", 1, () -> both.waits(1));
        Check.due("13: ready at 1, worked at from 2", 1, () -> both.waits(2));
    }

    /** "it changes for c moments first, unless it never worked." */
    private static void changingCostsNothingAtFirst() {
        Slicehouse house = Houses.with(Houses.job(2, 3));
        house.turns(1, 5, 0, 1, false);
        runsByAll("no cost for the first job", house, "--aaa");
    }

    /** "if the worker is to work at another job than that at which it worked last" */
    private static void changingCostsForAnotherJobAlone() {
        Slicehouse house = Houses.with(Houses.job(0, 2), Houses.job(2, 1), Houses.job(8, 1));
        house.turns(1, 2, 0, 1, false);
        runsByAll("a cost ahead of each other job, behind idle moments too", house, "aa**b---**c");
        house.turns(1, 5, 0, 1, false);
        runsByAll("the greatest cost", house, "aa*****b*****c");
        house.turns(1, 1, 0, 1, false);
        runsByAll("the least cost", house, "aa*b----*c");
    }

    /** "What was chosen ahead of that stays chosen." */
    private static void whatWasChosenStaysChosen() {
        Slicehouse house = Houses.with(new int[] {0, 1, 1, 9}, new int[] {0, 2, 9, 1}, new int[] {3, 1, 2, 9});
        house.turns(5, 3, 0, 1, false);
        String due = "a***bb***c";
        Check.run("a job of less work comes", house, Slicehouse.SHORTEST, due);
        Check.run("a job of a less deadline comes", house, Slicehouse.DEADLINE, "a***b***c***b");
        Check.run("a job of less work comes", house, Slicehouse.LEAST_LEFT, due);
        Check.run("a job of a greater rank comes", house, Slicehouse.RANKS, "a***b***c***b");
        Check.due("14: it waits, but not for a lock", 0, () -> house.blocked(2));
        Check.run("a job comes to the row", house, Slicehouse.RING, due);
        Check.run("a job comes to the level 0", house, Slicehouse.LEVELS, due);
    }

    /** "it chooses a ready job; if there is none, it is idle at this moment." */
    private static void idleIfNoneIsReady() {
        runsByAll("idle between", Houses.with(Houses.job(1, 1), Houses.job(4, 1)), "-a--b");
        Slicehouse waiting = Houses.with(Houses.job(3, 1), Houses.job(0, 1));
        waiting.after(1, 0);
        runsByAll("one has come, and waits", waiting, "---ab");
    }

    /** "works for a slice of q moments, or to its end"; "if it has not ended" */
    private static void ringTakesASliceOrToTheEnd() {
        Check.run("one less than a slice, a slice, one more", sliced(3, Houses.job(0, 2), Houses.job(0, 3), Houses.job(0, 4)),
                Slicehouse.RING, "aabbbcccc");
        Check.run("one more comes behind", sliced(3, Houses.job(0, 4), Houses.job(0, 3), Houses.job(0, 2)),
                Slicehouse.RING, "aaabbbcca");
        Check.run("a comer at the end of a slice, and one behind it", sliced(2, Houses.job(0, 3), Houses.job(2, 1), Houses.job(3, 1)),
                Slicehouse.RING, "aabac");
    }

    /** "the ready job that comes first, of several the least number; it works to its end." */
    private static void comingTakesTheFirstToCome() {
        Check.run("the first to come", Houses.with(Houses.job(2, 1), Houses.job(1, 1), Houses.job(0, 3)), Slicehouse.COMING, "cccba");
        Check.run("of several the least number", Houses.with(Houses.job(1, 1), Houses.job(1, 1), Houses.job(0, 2)), Slicehouse.COMING, "ccab");
        Slicehouse waiting = Houses.with(Houses.job(0, 2), Houses.job(2, 1), Houses.job(1, 3));
        waiting.after(2, 0);
        Check.run("one that waited and came first", waiting, Slicehouse.COMING, "aacccb");
    }

    /** "the ready job with the least length, of several the least number; it works to its end." */
    private static void shortestIsNotInterrupted() {
        Slicehouse house = Houses.with(Houses.job(0, 4), Houses.job(1, 1));
        Check.run("SHORTEST works to its end", house, Slicehouse.SHORTEST, "aaaab");
        Check.run("LEAST LEFT works one moment", house, Slicehouse.LEAST_LEFT, "abaaa");
        Check.run("of several the least number", Houses.with(Houses.job(0, 2), Houses.job(0, 2), Houses.job(0, 1)), Slicehouse.SHORTEST, "caabb");
        Slicehouse worked = Houses.with(Houses.job(0, 5), Houses.job(3, 3));
        Check.run("LEAST LEFT goes by the work left", worked, Slicehouse.LEAST_LEFT, "aaaaabbb");
    }

    /** "q moments on the level 0, 2 * q on the level 1 and 4 * q on the level 2"; "or again of the level 2" */
    private static void levelsHaveThreeSlices() {
        levelsOfTwins(1, "ab");
        levelsOfTwins(2, "abab");
        levelsOfTwins(3, "abaabb");
        levelsOfTwins(4, "abaabbab");
        levelsOfTwins(7, "abaabbaaaabbbb");
        levelsOfTwins(8, "abaabbaaaabbbbab");
        levelsOfTwins(11, "abaabbaaaabbbbaaaabbbb");
        levelsOfTwins(12, "abaabbaaaabbbbaaaabbbbab");
        Slicehouse great = sliced(4, Houses.job(0, 30), Houses.job(0, 29));
        Check.run("a slice of 4: 4, 8, 16 and the rest", great, Slicehouse.LEVELS, "a".repeat(4) + "b".repeat(4)
                + "a".repeat(8) + "b".repeat(8) + "a".repeat(16) + "b".repeat(16) + "aab");
    }

    private static void levelsOfTwins(int length, String due) {
        Check.run("two of " + length, sliced(1, Houses.job(0, length), Houses.job(0, length)), Slicehouse.LEVELS, due);
    }

    /** "The first job of the lowest level that has one is taken out" */
    private static void levelsLowestIsTaken() {
        Check.run("a comer on the level 0 is ahead of the level 2", sliced(1, Houses.job(0, 7), Houses.job(2, 1)), Slicehouse.LEVELS, "aaabaaaa");
        Check.run("and, back on the level 1, too", sliced(1, Houses.job(0, 7), Houses.job(3, 3)), Slicehouse.LEVELS, "aaabbbaaaa");
        Check.run("a comer does not interrupt", sliced(1, Houses.job(0, 7), Houses.job(4, 1)), Slicehouse.LEVELS, "aaaaaaab");
    }

    /**
     * "all jobs of the levels 1 and 2, in this order, come to the end of the row 0; then jobs that become ready ..; then
     * a job whose slice is over comes to the end of the row of the next level"
     */
    private static void levelsRiseInThisOrder() {
        Slicehouse house = Houses.with(Houses.job(0, 8), Houses.job(3, 3), Houses.job(4, 2), Houses.job(4, 1), Houses.job(5, 1));
        house.turns(1, 0, 5, 1, false);
        // At 5 d is in the row 0, b on the level 1 and a on the level 2; they are d, b, a there, then e comes, and c
        // is on the level 1. At 10 b and a rise again; a goes from the level 0 to 1 and 2 for its last four moments.
        Check.run("the order of a rise", house, Slicehouse.LEVELS, "aaabcdbaecbaaaa");
    }

    /** "if the moment can be divided by the rise (and is not 0; not with a rise of 0)" */
    private static void levelsRiseGoesOnlyByItsMoments() {
        // a falls to the level 1 at 1, and b at 2. Without a rise each has two moments next.
        String[] due = {"abaabb", "ababab", "ababba", "abaabb", "abaabb", "abaabb"};
        for (int rise = 0; rise < due.length; rise++) {
            Slicehouse house = Houses.twins();
            house.turns(1, 0, rise, 1, false);
            Check.run("a rise of " + rise, house, Slicehouse.LEVELS, due[rise]);
        }
        // b comes to the level 2 at 6, and is taken out of it at 10: behind that nothing rises but a.
        String[] later = {"abaabbaaaabbbabb", "abaabbaaaabbbabb", "abaabbaaaabbbbab", "abaabbaaaabbbbab"};
        for (int rise = 9; rise < 9 + later.length; rise++) {
            Slicehouse house = Houses.with(Houses.job(0, 8), Houses.job(0, 8));
            house.turns(1, 0, rise, 1, false);
            Check.run("a rise of " + rise, house, Slicehouse.LEVELS, later[rise - 9]);
        }
    }

    /** "gets, as its count, the least count of the other jobs that are ready and became so earlier, or 0 without such" */
    private static void sharesOfAComer() {
        Slicehouse least = sliced(1, Houses.weighing(0, 5, 1), Houses.weighing(0, 5, 2), Houses.weighing(4, 2, 1));
        // At 4 the count of a is 5040 and that of b 2520: c begins with 2520.
        Check.run("the least count of two", least, Slicehouse.SHARES, "abbabcbabcaa");
        Slicehouse turned = sliced(1, Houses.weighing(0, 5, 2), Houses.weighing(0, 5, 1), Houses.weighing(4, 2, 1));
        // a 1260, b 2520, a 2520, a 3780: at 4 c begins with 2520, and is behind b.
        Check.run("the least count of two, the other way round", turned, Slicehouse.SHARES, "abaabcaabcbb");
        Slicehouse ended = sliced(1, Houses.weighing(0, 3, 1), Houses.weighing(0, 1, 9), Houses.weighing(3, 2, 1));
        // b has ended with 280, which counts no more: at 3 c begins with the 5040 of a.
        Check.run("not of one that has ended", ended, Slicehouse.SHARES, "abaacc");
    }

    /** "its count becomes 2520 / weight more with each moment of work": a comer sees it in the middle of a slice. */
    private static void sharesOfAComerInASlice() {
        Slicehouse house = sliced(2, Houses.weighing(0, 4, 1), Houses.weighing(1, 4, 2));
        // b begins with 2520, as a has worked one moment; at 4 both have 5040.
        Check.run("a comer in a slice", house, Slicehouse.SHARES, "aabbaabb");
    }

    /** "the ready job with the least deadline (none is later than all), of several the least number" */
    private static void deadlineNoneIsLaterThanAll() {
        Check.run("none at all", Houses.with(Houses.due(0, 1, 0), Houses.due(0, 1, 0), Houses.due(0, 1, 400)), Slicehouse.DEADLINE, "cab");
        Check.run("the least and the greatest", Houses.with(Houses.due(0, 1, 400), Houses.due(0, 1, 399), Houses.due(0, 1, 1)),
                Slicehouse.DEADLINE, "cba");
        Check.run("of several the least number", Houses.with(Houses.due(0, 2, 7), Houses.due(0, 2, 7)), Slicehouse.DEADLINE, "aabb");
        Check.run("one comes that is as good", Houses.with(Houses.due(1, 1, 7), Houses.due(0, 2, 7)), Slicehouse.DEADLINE, "bab");
    }

    /** "It has the lock from the beginning of the first one of these moments to the end of the last one." */
    private static void locksAreHeldFromTheFirstMomentToTheLast() {
        checkHeld("a stretch of one moment holds nothing", 0, 1, 1, "abaa");
        checkHeld("not ahead of its first moment", 1, 2, 1, "abaa");
        checkHeld("not behind its last moment", 1, 2, 2, "aaba");
        checkHeld("behind its first moment", 0, 2, 1, "aaba");
        checkHeld("ahead of its last moment", 0, 3, 2, "aaab");
        checkHeld("behind its last moment", 0, 2, 2, "aaba");
        checkHeld("behind its first moment, at the end", 1, 3, 2, "aaab");
    }

    private static void checkHeld(String what, int from, int to, int comes, String due) {
        Slicehouse house = Houses.with(Houses.weighing(0, 3, 1), Houses.weighing(comes, 1, 9));
        house.lock(0, 0, from, to);
        house.lock(1, 0, 0, 1);
        Check.run(what, house, Slicehouse.RANKS, due);
    }

    /** A house with lending, in which each job needs its lock for all its moments of work; -1 for none. */
    private static Slicehouse lending(int[] locks, int[]... jobs) {
        Slicehouse house = Houses.with(jobs);
        for (int job = 0; job < jobs.length; job++) {
            if (locks[job] >= 0) {
                house.lock(job, locks[job], 0, jobs[job][1]);
            }
        }
        house.turns(1, 0, 0, 1, true);
        return house;
    }

    /** "the one with the greatest rank, of several the least number", with a rank that is lent */
    private static void lendingAgainstEqualRanks() {
        Check.run("a free job of the same rank and a less number",
                lending(new int[] {-1, 0, 0}, Houses.weighing(1, 1, 5), Houses.weighing(0, 3, 1), Houses.weighing(1, 1, 5)),
                Slicehouse.RANKS, "babbc");
        Check.run("a free job of the same rank and a greater number",
                lending(new int[] {0, 0, -1}, Houses.weighing(0, 3, 1), Houses.weighing(1, 1, 5), Houses.weighing(1, 1, 5)),
                Slicehouse.RANKS, "aaabc");
    }

    /** "with the greatest one of its own rank and the ranks of the jobs that are ready and blocked by it" */
    private static void lendingIsOfTheGreatest() {
        Check.run("its own rank is the greatest",
                lending(new int[] {0, 0, -1}, Houses.weighing(0, 3, 5), Houses.weighing(1, 1, 3), Houses.weighing(1, 1, 4)),
                Slicehouse.RANKS, "aaacb");
        Check.run("the last one of several is the greatest",
                lending(new int[] {0, 0, 0, -1}, Houses.weighing(0, 3, 1), Houses.weighing(1, 1, 3), Houses.weighing(1, 1, 7), Houses.weighing(1, 1, 5)),
                Slicehouse.RANKS, "aaacdb");
        Check.run("the first one of several is the greatest",
                lending(new int[] {0, 0, 0, -1}, Houses.weighing(0, 3, 1), Houses.weighing(1, 1, 7), Houses.weighing(1, 1, 3), Houses.weighing(1, 1, 5)),
                Slicehouse.RANKS, "aaabdc");
        Slicehouse longer = lending(new int[] {-1, 0, -1}, Houses.weighing(0, 4, 1), Houses.weighing(1, 1, 9), Houses.weighing(1, 2, 5));
        longer.lock(0, 0, 0, 2);
        Check.run("only while it has the lock", longer, Slicehouse.RANKS, "aabccaa");
    }

    private static void lendingIsOfReadyJobsAlone() {
        Slicehouse waiting = lending(new int[] {0, 0, -1}, Houses.weighing(0, 3, 1), Houses.weighing(1, 1, 9), Houses.weighing(1, 1, 5));
        waiting.after(1, 0);
        Check.run("one that waits lends nothing", waiting, Slicehouse.RANKS, "acaab");
        Check.due("14: nor is it kept waiting by locks", 0, () -> waiting.blocked(1));
        Slicehouse late = lending(new int[] {0, 0, -1}, Houses.weighing(0, 3, 1), Houses.weighing(3, 1, 9), Houses.weighing(1, 1, 5));
        Check.run("nor one that has not come yet", late, Slicehouse.RANKS, "acaab");
        Check.due("14: which is kept waiting when it has come", 1, () -> late.blocked(1));
    }

    private static void lendingIsToWhoHasTheLock() {
        Slicehouse house = lending(new int[] {0, 1, 1, -1}, Houses.weighing(0, 3, 2), Houses.weighing(1, 3, 3),
                Houses.weighing(2, 1, 9), Houses.weighing(2, 1, 5));
        Check.run("b has the lock that c needs", house, Slicehouse.RANKS, "abbbcdaa");
        house.turns(1, 0, 0, 1, false);
        Check.run("without lending", house, Slicehouse.RANKS, "abdbbcaa");
    }

    private static void full(String what, Slicehouse house, int from, int to, int work) {
        Check.due(what + ", beginning", from, () -> house.full(0));
        Check.due(what + ", end", to, () -> house.full(1));
        Check.due(what + ", work", work, () -> house.full(2));
    }

    /** "is too full if the jobs .. have more work together than b - a" */
    private static void stretchesThatAreJustFull() {
        full("as much work as moments", Houses.with(Houses.due(0, 5, 5)), -1, -1, -1);
        full("one more", Houses.with(Houses.due(0, 6, 5)), 0, 5, 6);
        full("as much, of two", Houses.with(Houses.due(0, 2, 5), Houses.due(0, 3, 4)), -1, -1, -1);
        full("one more, of two", Houses.with(Houses.due(0, 2, 5), Houses.due(0, 4, 4)), 0, 5, 6);
        full("without deadlines", Houses.with(Houses.due(0, 30, 0), Houses.due(0, 30, 0)), -1, -1, -1);
        full("a job without a deadline does not count", Houses.with(Houses.due(0, 30, 0), Houses.due(0, 3, 2)), 0, 2, 3);
    }

    /** "A stretch from a moment a up to a moment b, which is not less than a"; "at a or later"; "not later than b" */
    private static void stretchesAtTheMomentsThatBoundThem() {
        full("it comes at the beginning", Houses.with(Houses.due(3, 2, 4)), 3, 4, 2);
        full("the end is the beginning", Houses.with(Houses.due(5, 1, 5)), 5, 5, 1);
        full("one moment is enough", Houses.with(Houses.due(5, 1, 6)), -1, -1, -1);
        full("the end is not ahead of the beginning", Houses.with(Houses.due(50, 1, 1)), 1, 1, 1);
        full("at the greatest deadline", Houses.with(Houses.due(99, 30, 400)), -1, -1, -1);
        Slicehouse last = new Slicehouse();
        for (int job = 0; job < 12; job++) {
            last.job(99, 30, 400, 1);
        }
        full("twelve jobs up to the greatest deadline", last, 41, 400, 360);
    }

    /** "the one with the least beginning, of several the one with the least end" */
    private static void stretchesFirstOfSeveral() {
        Slicehouse house = Houses.with(Houses.due(20, 6, 25), Houses.due(10, 30, 39));
        // From 10 to 39 there are 36 of them; as many moments and one less from 4 on.
        full("the least beginning", house, 4, 39, 36);
        full("the least end", Houses.with(Houses.due(0, 9, 8), Houses.due(0, 3, 2)), 0, 2, 3);
        full("the least end, told first", Houses.with(Houses.due(0, 3, 2), Houses.due(0, 9, 8)), 0, 2, 3);
        full("all of its jobs", Houses.with(Houses.due(0, 1, 2), Houses.due(0, 2, 2), Houses.due(1, 2, 2)), 0, 2, 5);
    }

    private static Slicehouse tasks(int[]... told) {
        Slicehouse house = new Slicehouse();
        for (int[] task : told) {
            house.task(task[0], task[1], task[2]);
        }
        return house;
    }

    /** "of their length times (r / period, rounded up)" */
    private static void responsesRoundedUp() {
        Check.due("just a period", 4, () -> tasks(new int[] {4, 2, 4}, new int[] {8, 2, 8}).response(1));
        Check.due("one moment more", 7, () -> tasks(new int[] {4, 2, 4}, new int[] {8, 3, 8}).response(1));
        Check.due("two periods", 8, () -> tasks(new int[] {4, 2, 4}, new int[] {8, 4, 8}).response(1));
        Check.due("a period of 1", Slicehouse.NONE, () -> tasks(new int[] {1, 1, 1}, new int[] {60, 1, 60}).response(1));
        Check.due("a whole load ahead", Slicehouse.NONE,
                () -> tasks(new int[] {2, 1, 2}, new int[] {2, 1, 2}, new int[] {60, 1, 60}).response(2));
    }

    /** "none if that is later than its deadline" */
    private static void responsesAtTheDeadline() {
        Check.due("at its deadline", 7, () -> tasks(new int[] {4, 2, 4}, new int[] {8, 3, 7}).response(1));
        Check.due("one later", Slicehouse.NONE, () -> tasks(new int[] {4, 2, 4}, new int[] {8, 3, 6}).response(1));
        Check.due("alone, its length is its deadline", 3, () -> tasks(new int[] {9, 3, 3}).response(0));
        Check.due("the greatest one", 60, () -> tasks(new int[] {60, 30, 59}, new int[] {60, 30, 60}).response(1));
    }

    /** "those with a less deadline, and with the same one those with lower numbers, go ahead of it" */
    private static void responsesOfThoseThatGoAhead() {
        Slicehouse house = tasks(new int[] {60, 8, 20}, new int[] {50, 4, 19}, new int[] {40, 2, 20}, new int[] {30, 1, 21});
        Check.due("behind a less deadline", 12, () -> house.response(0));
        Check.due("ahead of all", 4, () -> house.response(1));
        Check.due("behind the same deadline and a lower number", 14, () -> house.response(2));
        Check.due("behind all, though it has the least period", 15, () -> house.response(3));
    }

    /** "The load is the sum of length / period over all tasks." */
    private static void loadWithoutACommonDivisor() {
        load("one", tasks(new int[] {60, 30, 60}), 1, 2);
        load("a whole one", tasks(new int[] {30, 30, 30}), 1, 1);
        load("the least", tasks(new int[] {60, 1, 60}), 1, 60);
        load("the greatest", tasks(new int[] {1, 1, 1}, new int[] {1, 1, 1}, new int[] {30, 30, 30}, new int[] {7, 7, 7}, new int[] {9, 9, 9}), 5, 1);
        load("a sum that is divided", tasks(new int[] {6, 1, 6}, new int[] {10, 1, 10}, new int[] {15, 1, 15}), 1, 3);
        load("periods without a common divisor", tasks(new int[] {59, 1, 59}, new int[] {60, 1, 60}), 119, 3540);
    }

    private static void load(String what, Slicehouse house, long above, long below) {
        Check.due("the load of " + what + ", above", above, () -> house.load(false));
        Check.due("the load of " + what + ", below", below, () -> house.load(true));
    }
}
