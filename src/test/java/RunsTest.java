/** Promises 7 to 18: runs by the nine rules, and what is asked about the latest one. */
public final class RunsTest {
    private RunsTest() {
    }

    public static void main(String[] args) {
        promise7Run();
        promise7Ring();
        promise7RulesToTheEnd();
        promise7RulesOfOneMoment();
        promise7Levels();
        promise7Shares();
        promise7Lots();
        promise7Ranks();
        promise7Changes();
        promise8Running();
        promise9Left();
        promise10Work();
        promise11And12Ends();
        promise13Waits();
        promise14Blocked();
        promise15Late();
        promise16Slowest();
        promise17Busy();
        promise18Checksum();
        Check.end("RunsTest");
    }

    private static void promise7Run() {
        Slicehouse house = new Slicehouse();
        Check.illegalArgument("7: below RING", () -> house.run(-1));
        Check.illegalArgument("7: above RANKS", () -> house.run(9));
        Check.illegalState("7: still no run", () -> house.sumOfEnds());
        for (int rule = Slicehouse.RING; rule <= Slicehouse.RANKS; rule++) {
            Check.run("7: without jobs", house, rule, "");
        }
        for (int rule = Slicehouse.RING; rule <= Slicehouse.RANKS; rule++) {
            Check.run("7: one late job", Houses.with(Houses.job(99, 1)), rule, "-".repeat(99) + "a");
        }
        Slicehouse longest = new Slicehouse();
        for (int job = 0; job < 12; job++) {
            longest.job(99, 30, 0, 1);
        }
        longest.turns(1, 5, 0, 1, false);
        Check.due("7: the longest run", 99 + 360 + 359 * 5, () -> longest.run(Slicehouse.RING));
        Check.due("7: its last job", 11, () -> longest.running(99 + 360 + 359 * 5 - 1));
        Check.due("7: its last end", 99 + 360 + 359 * 5, () -> longest.end(11));
    }

    private static void promise7Ring() {
        Check.run("7: a comer is ahead of a job whose slice is over",
                Houses.with(Houses.job(0, 4), Houses.job(2, 2)), Slicehouse.RING, "aabbaa");
        Check.run("7: comers by their numbers",
                Houses.with(Houses.job(1, 1), Houses.job(0, 3), Houses.job(1, 3)), Slicehouse.RING, "bbaccbc");
        Check.run("7: a slice ends with its job",
                Houses.with(Houses.job(0, 1), Houses.job(0, 3), Houses.job(0, 2)), Slicehouse.RING, "abbccb");
        Check.run("7: alone",
                Houses.with(Houses.job(1, 5)), Slicehouse.RING, "-aaaaa");
    }

    private static void promise7RulesToTheEnd() {
        Check.run("7: the one that comes first, to its end",
                Houses.with(Houses.job(1, 2), Houses.job(0, 3), Houses.job(1, 1)), Slicehouse.COMING, "bbbaac");
        Slicehouse waiting = Houses.with(Houses.job(0, 5), Houses.job(1, 1), Houses.job(4, 1));
        waiting.after(1, 0);
        Check.run("7: when it comes, not when it becomes ready", waiting, Slicehouse.COMING, "aaaaabc");
        Check.run("7: the least length, to its end",
                Houses.with(Houses.job(0, 5), Houses.job(1, 3), Houses.job(2, 2), Houses.job(2, 2)),
                Slicehouse.SHORTEST, "aaaaaccddbbb");
    }

    private static void promise7RulesOfOneMoment() {
        Check.run("7: the least work left",
                Houses.with(Houses.job(0, 4), Houses.job(1, 2), Houses.job(2, 2)), Slicehouse.LEAST_LEFT, "abbccaaa");
        Check.run("7: as much left, the least number",
                Houses.with(Houses.job(0, 3), Houses.job(1, 2)), Slicehouse.LEAST_LEFT, "aaabb");
        Check.run("7: as much left, the least number",
                Houses.with(Houses.job(1, 2), Houses.job(0, 3)), Slicehouse.LEAST_LEFT, "baabb");
        Check.run("7: the least deadline, none behind all",
                Houses.with(Houses.due(0, 3, 0), Houses.due(1, 2, 9), Houses.due(2, 1, 5), Houses.due(0, 1, 9)),
                Slicehouse.DEADLINE, "dbcbaaa");
        Check.run("7: the greatest deadline is ahead of none",
                Houses.with(Houses.due(0, 2, 0), Houses.due(0, 2, 400)), Slicehouse.DEADLINE, "bbaa");
    }

    private static void promise7Levels() {
        Slicehouse two = Houses.with(Houses.job(0, 12), Houses.job(0, 12));
        two.turns(1, 0, 0, 1, false);
        Check.run("7: slices of 1, 2 and 4, no rise", two, Slicehouse.LEVELS, "abaabbaaaabbbbaaaabbbbab");
        Slicehouse rising = Houses.with(Houses.job(0, 6), Houses.job(0, 6));
        rising.turns(1, 0, 4, 1, false);
        Check.run("7: who works does not rise", rising, Slicehouse.LEVELS, "abaabbbaaabb");
        Slicehouse comer = Houses.with(Houses.job(0, 3), Houses.job(0, 3), Houses.job(3, 1));
        comer.turns(1, 0, 3, 1, false);
        // At 3 the job b rises, then c comes, then the slice of a goes on to its end.
        Check.run("7: who rises is ahead of comers", comer, Slicehouse.LEVELS, "abaabcb");
        Slicehouse levels = Houses.with(Houses.job(0, 9), Houses.job(0, 9), Houses.job(3, 9));
        levels.turns(1, 0, 11, 1, false);
        // 0 a0, 1 b0, 2-3 a1 (c comes at 3; a to 2), 4 c0 (to 1), 5-6 b1 (to 2), 7-8 c1 (to 2), 9-12 a2;
        // at 11 b and c rise; 13 b0 (to 1), 14 c0 (to 1), 15-16 b1 (to 2), 17-18 c1 (to 2), 19-20 a2 to its end;
        // 21-23 b2 to its end (at 22 c rises); 24 c0, 25-26 c1 to its end.
        Check.run("7: the level 2 rises", levels, Slicehouse.LEVELS, "abaacbbccaaaabcbbccaabbbccc");
    }

    private static void promise7Shares() {
        Slicehouse house = Houses.with(Houses.weighing(0, 3, 1), Houses.weighing(0, 4, 2), Houses.weighing(3, 2, 9));
        house.turns(1, 0, 0, 1, false);
        Check.run("7: the least count", house, Slicehouse.SHARES, "abbabccba");
        Slicehouse late = Houses.with(Houses.weighing(0, 6, 1), Houses.weighing(4, 3, 1));
        late.turns(1, 0, 0, 1, false);
        Check.run("7: a comer gets the least count of the earlier ones", late, Slicehouse.SHARES, "aaaaababb");
        Slicehouse slices = Houses.with(Houses.weighing(0, 4, 9), Houses.weighing(0, 3, 1));
        Check.run("7: slices", slices, Slicehouse.SHARES, "aabbaab");
        Slicehouse both = Houses.with(Houses.weighing(0, 5, 1), Houses.weighing(2, 2, 1), Houses.weighing(2, 2, 1));
        both.turns(1, 0, 0, 1, false);
        // b and c become ready together: each gets the count of a, not 0 from the other.
        Check.run("7: comers do not count for one another", both, Slicehouse.SHARES, "aaabcabca");
    }

    private static void promise7Lots() {
        int[][] jobs = {Houses.weighing(0, 4, 1), Houses.weighing(0, 4, 3), Houses.weighing(3, 4, 9)};
        Slicehouse house = Houses.with(jobs);
        Check.run("7: a draw a slice", house, Slicehouse.LOTS, "bbbbccccaaaa");
        house.turns(1, 0, 0, 1, false);
        Check.run("7: a draw a moment", house, Slicehouse.LOTS, "bbbcbcccaaaa");
        Check.run("7: as much weight", Houses.twins(), Slicehouse.LOTS, "aaabbb");
    }

    private static void promise7Ranks() {
        Check.run("7: the greatest rank",
                Houses.with(Houses.weighing(0, 3, 1), Houses.weighing(1, 2, 9), Houses.weighing(2, 1, 9)),
                Slicehouse.RANKS, "abbcaa");
        Check.run("7: a job with a lock is in the way", Houses.inverted(0, false), Slicehouse.RANKS, "aabbbacca");
        Check.run("7: a lent rank", Houses.inverted(0, true), Slicehouse.RANKS, "aaaccbbba");
        Check.run("7: and the cost", Houses.inverted(1, false), Slicehouse.RANKS, "aa*bbb*a*cc*a");
        Check.run("7: locks count for RANKS alone", Houses.inverted(0, true), Slicehouse.LEAST_LEFT, "accaaabbb");
        Slicehouse first = Houses.with(Houses.weighing(0, 3, 1), Houses.weighing(1, 1, 9));
        first.lock(0, 0, 1, 3);
        first.lock(1, 0, 0, 1);
        Check.run("7: no lock ahead of the first moment of its stretch", first, Slicehouse.RANKS, "abaa");
        Slicehouse beside = Houses.with(Houses.weighing(0, 4, 1), Houses.weighing(1, 2, 9));
        beside.lock(0, 0, 0, 2);
        beside.lock(0, 0, 2, 4);
        beside.lock(1, 0, 0, 2);
        Check.run("7: none between two stretches", beside, Slicehouse.RANKS, "aabbaa");
        Slicehouse three = Houses.with(Houses.weighing(0, 8, 1), Houses.weighing(1, 3, 9), Houses.weighing(0, 1, 1));
        three.lock(0, 2, 0, 2);
        three.lock(0, 1, 2, 4);
        three.lock(0, 0, 5, 8);
        three.lock(1, 1, 0, 1);
        three.lock(1, 0, 1, 2);
        three.lock(1, 2, 2, 3);
        // b needs the lock 1 at first: a has it only from its moment 2 on; the locks 0 and 2 are for later moments.
        Check.run("7: three stretches", three, Slicehouse.RANKS, "abbabaaaaaac");
        Slicehouse last = Houses.with(Houses.weighing(0, 8, 1), Houses.weighing(7, 3, 9));
        last.lock(0, 2, 0, 1);
        last.lock(0, 1, 1, 5);
        last.lock(0, 0, 5, 8);
        last.lock(1, 1, 0, 1);
        last.lock(1, 0, 1, 3);
        Check.run("7: the last stretch", last, Slicehouse.RANKS, "aaaaaaababb");
        Slicehouse other = Houses.with(Houses.weighing(0, 3, 1), Houses.weighing(1, 2, 9));
        other.lock(0, 0, 0, 3);
        other.lock(1, 1, 0, 2);
        Check.run("7: another lock does not block", other, Slicehouse.RANKS, "abbaa");
    }

    private static void promise7Changes() {
        Slicehouse idle = Houses.with(Houses.job(0, 1), Houses.job(5, 1));
        idle.turns(2, 2, 0, 1, false);
        Check.run("7: it changes behind idle moments too", idle, Slicehouse.RING, "a----**b");
        Slicehouse chosen = Houses.with(Houses.job(0, 5), Houses.job(1, 2), Houses.job(2, 1));
        chosen.turns(2, 2, 0, 1, false);
        Check.run("7: what was chosen stays chosen", chosen, Slicehouse.LEAST_LEFT, "a**bb**c**aaaa");
        Slicehouse late = Houses.with(Houses.job(9, 1));
        late.turns(2, 5, 0, 1, false);
        Check.run("7: no cost at first", late, Slicehouse.RING, "---------a");
        Slicehouse ring = Houses.with(Houses.job(0, 3), Houses.job(0, 1), Houses.job(3, 1));
        ring.turns(2, 1, 0, 1, false);
        Check.run("7: jobs come while the worker changes", ring, Slicehouse.RING, "aa*b*a*c");
        Slicehouse levels = Houses.with(Houses.job(0, 3), Houses.job(0, 2));
        levels.turns(1, 1, 0, 1, false);
        Check.run("7: changing is not of the slice", levels, Slicehouse.LEVELS, "a*b*aa*b");
    }

    private static void promise8Running() {
        Slicehouse house = Houses.with(Houses.job(0, 1), Houses.job(2, 1));
        Check.illegalArgument("8: below 0, without a run", () -> house.running(-1));
        Check.illegalState("8: without a run", () -> house.running(0));
        house.turns(2, 1, 0, 1, false);
        house.run(Slicehouse.RING);
        int[] due = {0, Slicehouse.IDLE, Slicehouse.CHANGES, 1, Slicehouse.IDLE};
        for (int moment = 0; moment < due.length; moment++) {
            int at = moment;
            Check.due("8: running " + at, due[at], () -> house.running(at));
        }
        Check.due("8: far behind", Slicehouse.IDLE, () -> house.running(Integer.MAX_VALUE));
        Check.illegalArgument("8: below 0", () -> house.running(Integer.MIN_VALUE));
        Slicehouse shorter = Houses.twins();
        shorter.turns(1, 5, 0, 1, false);
        shorter.run(Slicehouse.RING);
        shorter.turns(1, 0, 0, 1, false);
        shorter.run(Slicehouse.RING);
        Check.due("8: nothing of a longer run before", Slicehouse.IDLE, () -> shorter.running(6));
    }

    private static void promise9Left() {
        Slicehouse house = Houses.with(Houses.job(0, 3), Houses.job(2, 2));
        Check.outOfBounds("9: job, moment and no run", () -> house.left(2, -1));
        Check.outOfBounds("9: job", () -> house.left(-1, 0));
        Check.illegalArgument("9: moment and no run", () -> house.left(0, -1));
        Check.illegalState("9: no run", () -> house.left(0, 0));
        house.run(Slicehouse.LEAST_LEFT);
        int[] first = {3, 2, 1, 0, 0, 0, 0};
        int[] second = {2, 2, 2, 2, 1, 0, 0};
        for (int moment = 0; moment < first.length; moment++) {
            int at = moment;
            Check.due("9: left " + at, first[at], () -> house.left(0, at));
            Check.due("9: left " + at, second[at], () -> house.left(1, at));
        }
        Check.due("9: far behind", 0, () -> house.left(1, Integer.MAX_VALUE));
    }

    private static void promise10Work() {
        Slicehouse house = Houses.with(Houses.job(0, 3), Houses.job(2, 2));
        Check.illegalArgument("10: moment and no run", () -> house.work(-1));
        Check.illegalState("10: no run", () -> house.work(0));
        house.run(Slicehouse.LEAST_LEFT);
        int[] due = {3, 2, 3, 2, 1, 0, 0};
        for (int moment = 0; moment < due.length; moment++) {
            int at = moment;
            Check.due("10: work " + at, due[at], () -> house.work(at));
        }
        Check.due("10: far behind", 0, () -> house.work(Integer.MAX_VALUE));
        Slicehouse waiting = Houses.with(Houses.job(5, 1), Houses.job(0, 4));
        waiting.after(1, 0);
        waiting.run(Slicehouse.RING);
        Check.due("10: a job that has come and waits", 4, () -> waiting.work(3));
    }

    private static void promise11And12Ends() {
        Slicehouse house = Houses.twins();
        Check.outOfBounds("11: job and no run", () -> house.end(2));
        Check.illegalState("11: no run", () -> house.end(0));
        Check.illegalState("12: no run", () -> house.sumOfEnds());
        house.run(Slicehouse.RING);
        Check.due("11: end", 5, () -> house.end(0));
        Check.due("11: end", 6, () -> house.end(1));
        Check.outOfBounds("11: job", () -> house.end(-1));
        Check.due("12: sum", 11, () -> house.sumOfEnds());
        house.run(Slicehouse.COMING);
        Check.due("11: end of the latest run", 3, () -> house.end(0));
        Check.due("12: sum of the latest run", 9, () -> house.sumOfEnds());
        house.clear();
        house.run(Slicehouse.COMING);
        Check.due("12: without jobs", 0, () -> house.sumOfEnds());
    }

    private static void promise13Waits() {
        Slicehouse house = Houses.with(Houses.job(0, 5), Houses.job(0, 3), Houses.job(1, 1));
        Check.outOfBounds("13: job and no run", () -> house.waits(3));
        Check.illegalState("13: no run", () -> house.waits(2));
        Check.run("13: by RING", house, Slicehouse.RING, "aabbcaaba");
        Check.due("13: between two pieces", 3, () -> house.waits(0));
        Check.due("13: between two pieces", 3, () -> house.waits(1));
        Check.due("13: ahead of the first one", 3, () -> house.waits(2));
        house.after(2, 1);
        Check.run("13: by RING", house, Slicehouse.RING, "aabbaabac");
        Check.due("13: from when it becomes ready", 1, () -> house.waits(2));
        Check.due("13: the longest one", 2, () -> house.waits(0));
        Check.run("13: by COMING", house, Slicehouse.COMING, "aaaaabbbc");
        Check.due("13: not at all", 0, () -> house.waits(0));
        Check.due("13: at first alone", 5, () -> house.waits(1));
    }

    private static void promise14Blocked() {
        Slicehouse house = Houses.inverted(0, false);
        Check.outOfBounds("14: job and no run", () -> house.blocked(3));
        Check.illegalState("14: no run", () -> house.blocked(2));
        house.run(Slicehouse.RANKS);
        Check.due("14: without lending", 5, () -> house.blocked(2));
        Check.due("14: who has the lock", 0, () -> house.blocked(0));
        Check.due("14: who has no stretch", 0, () -> house.blocked(1));
        house.run(Slicehouse.LEAST_LEFT);
        Check.due("14: other rules", 0, () -> house.blocked(2));
        Slicehouse lent = Houses.inverted(0, true);
        lent.run(Slicehouse.RANKS);
        Check.due("14: with lending", 2, () -> lent.blocked(2));
        Slicehouse changing = Houses.inverted(1, false);
        changing.run(Slicehouse.RANKS);
        Check.due("14: changing counts", 7, () -> changing.blocked(2));
        Slicehouse first = Houses.with(Houses.weighing(1, 2, 9), Houses.weighing(0, 3, 1));
        first.lock(0, 0, 0, 2);
        first.lock(1, 0, 0, 3);
        Check.run("14: the first job", first, Slicehouse.RANKS, "bbbaa");
        Check.due("14: the first job", 2, () -> first.blocked(0));
        Check.due("14: not by itself", 0, () -> first.blocked(1));
        Slicehouse middle = Houses.with(Houses.weighing(0, 3, 5), Houses.weighing(1, 1, 5), Houses.weighing(1, 2, 9));
        middle.lock(0, 0, 0, 3);
        middle.lock(1, 0, 0, 1);
        Check.run("14: greater and equal ranks", middle, Slicehouse.RANKS, "accaab");
        Check.due("14: not by them", 0, () -> middle.blocked(1));
    }

    private static void promise15Late() {
        Slicehouse house = Houses.with(Houses.due(0, 3, 2), Houses.due(0, 1, 4), Houses.due(0, 1, 0), Houses.due(0, 1, 1));
        Check.outOfBounds("15: job and no run", () -> house.late(4));
        Check.illegalState("15: no run", () -> house.late(0));
        house.run(Slicehouse.COMING);
        Check.due("15: late", 1, () -> house.late(0));
        Check.due("15: just in time", 0, () -> house.late(1));
        Check.due("15: without a deadline", 0, () -> house.late(2));
        Check.due("15: late", 5, () -> house.late(3));
        house.run(Slicehouse.DEADLINE);
        Check.due("15: in time", 0, () -> house.late(3));
    }

    private static void promise16Slowest() {
        Slicehouse house = new Slicehouse();
        Check.illegalState("16: no run", () -> house.slowest(true));
        house.run(Slicehouse.RING);
        Check.illegalState("16: no jobs", () -> house.slowest(false));
        house.job(2, 6, 0, 1);
        house.job(4, 4, 0, 1);
        house.job(11, 1, 0, 1);
        house.run(Slicehouse.COMING);
        // 6 / 6, (12 - 4) / 4, (13 - 11) / 1
        Check.due("16: above", 2, () -> house.slowest(false));
        Check.due("16: below", 1, () -> house.slowest(true));
        Slicehouse firstJob = Houses.with(Houses.job(0, 1), Houses.job(0, 3));
        firstJob.after(1, 0);
        firstJob.job(0, 2, 0, 9);
        firstJob.run(Slicehouse.RANKS);
        // 3 / 1, 6 / 3, 2 / 2
        Check.due("16: the first job, above", 3, () -> firstJob.slowest(false));
        Check.due("16: the first job, below", 1, () -> firstJob.slowest(true));
        Slicehouse divided = Houses.with(Houses.job(0, 5), Houses.job(1, 6));
        divided.run(Slicehouse.COMING);
        // (11 - 1) / 6
        Check.due("16: above", 5, () -> divided.slowest(false));
        Check.due("16: below", 3, () -> divided.slowest(true));
    }

    private static void promise17Busy() {
        Slicehouse house = Houses.with(Houses.job(0, 1), Houses.job(5, 1), Houses.job(6, 2));
        Check.illegalState("17: no run", () -> house.busy(-2, true));
        house.turns(2, 2, 0, 1, false);
        Check.run("17: by RING", house, Slicehouse.RING, "a----**b**cc");
        Check.due("17: how many", 2, () -> house.busy(Slicehouse.NONE, false));
        Check.due("17: how many", 2, () -> house.busy(Slicehouse.NONE, true));
        Check.due("17: from", 0, () -> house.busy(0, false));
        Check.due("17: to", 1, () -> house.busy(0, true));
        Check.due("17: from", 5, () -> house.busy(1, false));
        Check.due("17: to", 12, () -> house.busy(1, true));
        Check.noSuchElement("17: none such", () -> house.busy(2, false));
        Check.noSuchElement("17: none such", () -> house.busy(-2, false));
        Check.noSuchElement("17: none such", () -> house.busy(Integer.MAX_VALUE, true));
        Check.noSuchElement("17: none such", () -> house.busy(Integer.MIN_VALUE, true));
    }

    private static void promise18Checksum() {
        Slicehouse house = new Slicehouse();
        Check.illegalState("18: no run", () -> house.checksum());
        house.run(Slicehouse.RING);
        Check.due("18: without moments", 0, () -> house.checksum());
        house.job(1, 1, 0, 1);
        house.job(1, 1, 0, 1);
        house.turns(2, 1, 0, 1, false);
        house.run(Slicehouse.RING);
        // - a * b: 2, 3, 1, 4
        Check.due("18: four moments", ((2 * 31 + 3) * 31 + 1) * 31 + 4, () -> house.checksum());
    }
}
