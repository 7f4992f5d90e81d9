import java.util.function.Supplier;

/** Each argument at its least and its greatest value, just below and just above them, and what these values do. */
public final class BoundsTest {
    /** A call in which one argument is tried, and all others are in range. */
    private interface Trial {
        Object answer(Slicehouse house, int value);
    }

    private static final int LOW = Integer.MIN_VALUE;
    private static final int HIGH = Integer.MAX_VALUE;

    private BoundsTest() {
    }

    public static void main(String[] args) {
        promise2Job();
        promise2TheJobsAtTheirBounds();
        promise2WeightsAtTheirBounds();
        promise2DeadlinesAtTheirBounds();
        promise3After();
        promise4Lock();
        promise4LockFromAndTo();
        promise5Turns();
        promise5SliceAtItsBounds();
        promise5ChangeAtItsBounds();
        promise5RiseAtItsBounds();
        promise7Run();
        promises8To10Moments();
        promises11To15Jobs();
        promise17Busy();
        promise23Full();
        promise24Task();
        promise24TaskHeldByItsPeriod();
        promise26Response();
        Check.end("BoundsTest");
    }

    /** The answer due at both bounds, each in a house of its own, and the exception just beyond them and far off. */
    private static void range(String what, int least, int most, Supplier<Slicehouse> house, Object due, String exception, Trial trial) {
        accept(what, house, due, trial, least, most);
        reject(what, house, exception, trial, least - 1, most + 1, LOW, HIGH);
    }

    private static void accept(String what, Supplier<Slicehouse> house, Object due, Trial trial, int... values) {
        for (int value : values) {
            Check.due(what + " of " + value, due, () -> trial.answer(house.get(), value));
        }
    }

    private static void reject(String what, Supplier<Slicehouse> house, String exception, Trial trial, int... values) {
        for (int value : values) {
            Check.due(what + " of " + value, exception, () -> trial.answer(house.get(), value));
        }
    }

    private static Slicehouse ran(Slicehouse house, int rule) {
        house.run(rule);
        return house;
    }

    private static void promise2Job() {
        Supplier<Slicehouse> house = Slicehouse::new;
        range("2: comes", 0, 99, house, 0, Check.ILLEGAL_ARGUMENT, (x, comes) -> x.job(comes, 1, 0, 1));
        range("2: length", 1, 30, house, 0, Check.ILLEGAL_ARGUMENT, (x, length) -> x.job(0, length, 0, 1));
        range("2: deadline", 0, 400, house, 0, Check.ILLEGAL_ARGUMENT, (x, deadline) -> x.job(0, 1, deadline, 1));
        accept("2: deadline", house, 0, (x, deadline) -> x.job(0, 1, deadline, 1), 1);
        range("2: weight", 1, 9, house, 0, Check.ILLEGAL_ARGUMENT, (x, weight) -> x.job(0, 1, 0, weight));
    }

    private static void promise2TheJobsAtTheirBounds() {
        Check.run("2: it comes at 0", Houses.with(Houses.job(0, 1)), Slicehouse.COMING, "a");
        Check.run("2: it comes at 99", Houses.with(Houses.job(99, 1)), Slicehouse.COMING, "-".repeat(99) + "a");
        Check.run("2: a length of 1", Houses.with(Houses.job(0, 1), Houses.job(0, 2)), Slicehouse.COMING, "abb");
        Check.run("2: a length of 30", Houses.with(Houses.job(0, 30), Houses.job(0, 1)), Slicehouse.COMING, "a".repeat(30) + "b");
    }

    private static void promise2WeightsAtTheirBounds() {
        Slicehouse ranks = Houses.with(Houses.weighing(0, 1, 1), Houses.weighing(0, 1, 8), Houses.weighing(0, 1, 9));
        Check.run("2: the ranks 1, 8 and 9", ranks, Slicehouse.RANKS, "cba");
        // The count of a becomes 2520 with its one moment, that of b 280 with each of nine: as much, so that a goes on.
        Slicehouse shares = Houses.with(Houses.weighing(0, 2, 1), Houses.weighing(0, 10, 9));
        shares.turns(1, 0, 0, 1, false);
        Check.run("2: the weights 1 and 9", shares, Slicehouse.SHARES, "a" + "b".repeat(9) + "ab");
    }

    private static void promise2DeadlinesAtTheirBounds() {
        Slicehouse first = Houses.with(Houses.due(0, 1, 1), Houses.due(0, 1, 1));
        first.run(Slicehouse.COMING);
        Check.due("2: a deadline of 1, kept", 0, () -> first.late(0));
        Check.due("2: a deadline of 1, not kept", 1, () -> first.late(1));
        // They end at 129, 159 and so on: the job 9 at 399, the job 10 at 429, the job 11 at 459.
        Slicehouse last = new Slicehouse();
        for (int job = 0; job < 12; job++) {
            last.job(99, 30, job == 11 ? 0 : 400, 1);
        }
        last.run(Slicehouse.COMING);
        Check.due("2: a deadline of 400, kept", 0, () -> last.late(9));
        Check.due("2: a deadline of 400, not kept", 29, () -> last.late(10));
        Check.due("2: no deadline, which is always kept", 0, () -> last.late(11));
    }

    private static void promise3After() {
        Supplier<Slicehouse> house = BoundsTest::four;
        reject("3: job", house, Check.OUT_OF_BOUNDS, (x, job) -> x.after(job, 0), -1, 4, LOW, HIGH);
        reject("3: job, which has no lower one", house, Check.ILLEGAL_ARGUMENT, (x, job) -> x.after(job, 0), 0);
        accept("3: job", house, 1, (x, job) -> x.after(job, 0), 1, 3);
        reject("3: other", house, Check.OUT_OF_BOUNDS, (x, other) -> x.after(3, other), -1, 4, LOW, HIGH);
        reject("3: other, just not lower", house, Check.ILLEGAL_ARGUMENT, (x, other) -> x.after(3, other), 3);
        accept("3: other", house, 1, (x, other) -> x.after(3, other), 0, 2);
    }

    private static Slicehouse four() {
        return Houses.with(Houses.job(0, 3), Houses.job(0, 3), Houses.job(0, 3), Houses.job(0, 30));
    }

    private static void promise4Lock() {
        range("4: job", 0, 3, BoundsTest::four, 1, Check.OUT_OF_BOUNDS, (x, job) -> x.lock(job, 0, 0, 1));
        range("4: lock", 0, 2, BoundsTest::four, 1, Check.OUT_OF_BOUNDS, (x, lock) -> x.lock(0, lock, 0, 1));
        for (int number = 0; number <= 2; number++) {
            int lock = number;
            Slicehouse house = Houses.with(Houses.weighing(0, 3, 1), Houses.weighing(1, 1, 9), Houses.weighing(1, 1, 8));
            house.lock(0, lock, 0, 3);
            house.lock(1, lock, 0, 1);
            house.lock(2, (lock + 1) % 3, 0, 1);
            Check.run("4: the lock " + lock, house, Slicehouse.RANKS, "acaab");
        }
    }

    private static void promise4LockFromAndTo() {
        range("4: from, of three moments", 0, 2, BoundsTest::four, 1, Check.ILLEGAL_ARGUMENT, (x, from) -> x.lock(0, 0, from, 3));
        range("4: to, of three moments", 1, 3, BoundsTest::four, 1, Check.ILLEGAL_ARGUMENT, (x, to) -> x.lock(0, 0, 0, to));
        range("4: from, of thirty", 0, 29, BoundsTest::four, 1, Check.ILLEGAL_ARGUMENT, (x, from) -> x.lock(3, 0, from, 30));
        range("4: to, of thirty", 1, 30, BoundsTest::four, 1, Check.ILLEGAL_ARGUMENT, (x, to) -> x.lock(3, 0, 0, to));
        Supplier<Slicehouse> locked = () -> {
            Slicehouse house = four();
            house.lock(3, 1, 10, 20);
            return house;
        };
        accept("4: a moment beside another stretch, from", locked, 2, (x, from) -> x.lock(3, 1, from, from + 1), 9, 20);
        reject("4: a moment of another stretch, from", locked, Check.ILLEGAL_ARGUMENT, (x, from) -> x.lock(3, 2, from, from + 1), 10, 19);
        accept("4: up to another stretch", locked, 2, (x, to) -> x.lock(3, 1, 5, to), 10);
        reject("4: up to its first moment", locked, Check.ILLEGAL_ARGUMENT, (x, to) -> x.lock(3, 1, 5, to), 11);
        accept("4: behind another stretch", locked, 2, (x, from) -> x.lock(3, 1, from, 30), 20);
        reject("4: from its last moment", locked, Check.ILLEGAL_ARGUMENT, (x, from) -> x.lock(3, 1, from, 30), 19);
        Check.due("4: another job's stretch does not overlap", 1, () -> locked.get().lock(0, 1, 0, 3));
    }

    private static void promise5Turns() {
        Supplier<Slicehouse> house = Slicehouse::new;
        range("5: slice", 1, 20, house, 2, Check.ILLEGAL_ARGUMENT, (x, slice) -> x.turns(slice, 0, 0, 1, false));
        range("5: change", 0, 5, house, 2, Check.ILLEGAL_ARGUMENT, (x, change) -> x.turns(2, change, 0, 1, false));
        range("5: rise", 0, 99, house, 2, Check.ILLEGAL_ARGUMENT, (x, rise) -> x.turns(2, 0, rise, 1, false));
        accept("5: seed", house, 2, (x, seed) -> x.turns(2, 0, 0, seed, false), LOW, -1, 0, 1, HIGH);
        Slicehouse told = new Slicehouse();
        told.turns(20, 5, 99, HIGH, true);
        Check.due("5: the greatest slice before", 20, () -> told.turns(1, 0, 0, LOW, false));
        Check.due("5: the least slice before", 1, () -> told.turns(2, 0, 0, 0, false));
    }

    private static void promise5SliceAtItsBounds() {
        Slicehouse house = Houses.with(Houses.job(0, 21), Houses.job(0, 20), Houses.job(0, 22));
        house.turns(20, 0, 0, 1, false);
        String due = "a".repeat(20) + "b".repeat(20) + "c".repeat(20);
        Check.run("5: slices of 20", house, Slicehouse.RING, due + "acc");
        house.turns(1, 0, 0, 1, false);
        Check.run("5: slices of 1", house, Slicehouse.RING, "abc".repeat(20) + "acc");
    }

    private static void promise5ChangeAtItsBounds() {
        Slicehouse house = Houses.with(Houses.job(0, 1), Houses.job(0, 2), Houses.job(9, 1));
        for (int change = 0; change <= 5; change++) {
            String changes = "*".repeat(change);
            house.turns(1, change, 0, 1, false);
            String idle = "-".repeat(6 - change);
            Check.run("5: a cost of " + change, house, Slicehouse.COMING, "a" + changes + "bb" + idle + changes + "c");
        }
    }

    private static void promise5RiseAtItsBounds() {
        // A slice of 1: a at 96 and b at 97; at 98 both are on the level 1, and a is taken out of it for two moments.
        Slicehouse house = Houses.with(Houses.job(96, 5), Houses.job(96, 5));
        checkRise(house, 0, "abaabbaabb");
        // At 98 a rises, and b comes to the level 1 behind it.
        checkRise(house, 98, "ababbaabba");
        // At 99 b rises, while a works on.
        checkRise(house, 99, "abaabbbaab");
        // At each moment the one that waits rises.
        checkRise(house, 1, "ababababab");
    }

    private static void checkRise(Slicehouse house, int rise, String due) {
        house.turns(1, 0, rise, 1, false);
        Check.run("5: a rise of " + rise, house, Slicehouse.LEVELS, "-".repeat(96) + due);
    }

    private static void promise7Run() {
        range("7: rule", 0, 8, () -> Houses.with(Houses.job(0, 7)), 7, Check.ILLEGAL_ARGUMENT, (x, rule) -> x.run(rule));
    }

    private static void promises8To10Moments() {
        Supplier<Slicehouse> house = () -> ran(Houses.twins(), Slicehouse.COMING);
        reject("8: moment", house, Check.ILLEGAL_ARGUMENT, (x, moment) -> x.running(moment), -1, LOW);
        accept("8: moment, of the first job", house, 0, (x, moment) -> x.running(moment), 0, 2);
        accept("8: moment, of the second job", house, 1, (x, moment) -> x.running(moment), 3, 5);
        accept("8: moment behind the end", house, Slicehouse.IDLE, (x, moment) -> x.running(moment), 6, HIGH);
        range("9: job", 0, 1, house, 3, Check.OUT_OF_BOUNDS, (x, job) -> x.left(job, 0));
        reject("9: moment", house, Check.ILLEGAL_ARGUMENT, (x, moment) -> x.left(1, moment), -1, LOW);
        accept("9: moment, nothing done", house, 3, (x, moment) -> x.left(1, moment), 0, 3);
        accept("9: moment, the last one ahead", house, 1, (x, moment) -> x.left(1, moment), 5);
        accept("9: moment behind the end", house, 0, (x, moment) -> x.left(1, moment), 6, HIGH);
        reject("10: moment", house, Check.ILLEGAL_ARGUMENT, (x, moment) -> x.work(moment), -1, LOW);
        accept("10: moment, nothing done", house, 6, (x, moment) -> x.work(moment), 0);
        accept("10: moment, the last one ahead", house, 1, (x, moment) -> x.work(moment), 5);
        accept("10: moment behind the end", house, 0, (x, moment) -> x.work(moment), 6, HIGH);
    }

    private static void promises11To15Jobs() {
        Supplier<Slicehouse> house = () -> ran(Houses.twins(), Slicehouse.RING);
        reject("11: job", house, Check.OUT_OF_BOUNDS, (x, job) -> x.end(job), -1, 2, LOW, HIGH);
        accept("11: the first job", house, 5, (x, job) -> x.end(job), 0);
        accept("11: the last job", house, 6, (x, job) -> x.end(job), 1);
        range("13: job", 0, 1, house, 2, Check.OUT_OF_BOUNDS, (x, job) -> x.waits(job));
        range("14: job", 0, 1, house, 0, Check.OUT_OF_BOUNDS, (x, job) -> x.blocked(job));
        range("15: job", 0, 1, house, 0, Check.OUT_OF_BOUNDS, (x, job) -> x.late(job));
    }

    private static void promise17Busy() {
        Supplier<Slicehouse> house = () -> ran(Houses.with(Houses.job(0, 1), Houses.job(5, 2)), Slicehouse.RING);
        reject("17: index", house, Check.NO_SUCH_ELEMENT, (x, index) -> x.busy(index, false), -2, 2, LOW, HIGH);
        reject("17: index, for the end", house, Check.NO_SUCH_ELEMENT, (x, index) -> x.busy(index, true), -2, 2, LOW, HIGH);
        accept("17: index, to count them", house, 2, (x, index) -> x.busy(index, false), Slicehouse.NONE);
        accept("17: index, to count them", house, 2, (x, index) -> x.busy(index, true), Slicehouse.NONE);
        accept("17: the first one", house, 0, (x, index) -> x.busy(index, false), 0);
        accept("17: the end of the first one", house, 1, (x, index) -> x.busy(index, true), 0);
        accept("17: the last one", house, 5, (x, index) -> x.busy(index, false), 1);
        accept("17: the end of the last one", house, 7, (x, index) -> x.busy(index, true), 1);
    }

    private static void promise23Full() {
        Supplier<Slicehouse> house = () -> Houses.with(Houses.due(9, 7, 12));
        reject("23: what", house, Check.ILLEGAL_ARGUMENT, (x, what) -> x.full(what), -1, 3, LOW, HIGH);
        accept("23: the beginning", house, 6, (x, what) -> x.full(what), 0);
        accept("23: the end", house, 12, (x, what) -> x.full(what), 1);
        accept("23: the work", house, 7, (x, what) -> x.full(what), 2);
    }

    private static void promise24Task() {
        Supplier<Slicehouse> house = Slicehouse::new;
        range("24: period", 1, 60, house, 0, Check.ILLEGAL_ARGUMENT, (x, period) -> x.task(period, 1, 1));
        range("24: length", 1, 30, house, 0, Check.ILLEGAL_ARGUMENT, (x, length) -> x.task(60, length, 60));
        range("24: deadline", 1, 60, house, 0, Check.ILLEGAL_ARGUMENT, (x, deadline) -> x.task(60, 1, deadline));
    }

    private static void promise24TaskHeldByItsPeriod() {
        Supplier<Slicehouse> house = Slicehouse::new;
        range("24: length, up to the period", 1, 9, house, 0, Check.ILLEGAL_ARGUMENT, (x, length) -> x.task(9, length, 9));
        range("24: deadline, from the length to the period", 3, 9, house, 0, Check.ILLEGAL_ARGUMENT, (x, deadline) -> x.task(9, 3, deadline));
        range("24: period, all three as one", 1, 30, house, 0, Check.ILLEGAL_ARGUMENT, (x, all) -> x.task(all, all, all));
        range("24: deadline, as the length and the period", 9, 9, house, 0, Check.ILLEGAL_ARGUMENT, (x, deadline) -> x.task(9, 9, deadline));
    }

    private static void promise26Response() {
        Supplier<Slicehouse> house = () -> {
            Slicehouse two = new Slicehouse();
            two.task(60, 4, 4);
            two.task(50, 1, 50);
            two.task(60, 4, 60);
            return two;
        };
        reject("26: task", house, Check.OUT_OF_BOUNDS, (x, task) -> x.response(task), -1, 3, LOW, HIGH);
        accept("26: the first task", house, 4, (x, task) -> x.response(task), 0);
        accept("26: the last task", house, 9, (x, task) -> x.response(task), 2);
    }
}
