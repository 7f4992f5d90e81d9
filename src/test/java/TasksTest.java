/** Promises 24 to 26: tasks that come again and again. */
public final class TasksTest {
    private TasksTest() {
    }

    public static void main(String[] args) {
        promise24Task();
        promise25Load();
        promise26Response();
        promise26ResponseOrder();
        Check.end("TasksTest");
    }

    private static void promise24Task() {
        Slicehouse house = new Slicehouse();
        Check.illegalArgument("24: period", () -> house.task(0, 1, 1));
        Check.illegalArgument("24: period", () -> house.task(61, 1, 1));
        Check.illegalArgument("24: length", () -> house.task(5, 0, 1));
        Check.illegalArgument("24: length", () -> house.task(60, 31, 60));
        Check.illegalArgument("24: length above the period", () -> house.task(5, 6, 6));
        Check.illegalArgument("24: deadline below the length", () -> house.task(5, 3, 2));
        Check.illegalArgument("24: deadline above the period", () -> house.task(5, 3, 6));
        Check.illegalArgument("24: far numbers", () -> house.task(Integer.MAX_VALUE, Integer.MIN_VALUE, 0));
        Check.due("24: least", 0, () -> house.task(1, 1, 1));
        Check.due("24: greatest", 1, () -> house.task(60, 30, 60));
        Check.due("24: the deadline is the length", 2, () -> house.task(60, 30, 30));
        Check.due("24: the length is the period", 3, () -> house.task(30, 30, 30));
        Check.due("24: the fifth", 4, () -> house.task(2, 1, 1));
        Check.illegalState("24: too many", () -> house.task(2, 1, 1));
        Check.illegalArgument("24: too many, and out of range", () -> house.task(2, 1, 3));
    }

    private static void promise25Load() {
        Slicehouse house = new Slicehouse();
        Check.due("25: above, without tasks", 0L, () -> house.load(false));
        Check.due("25: below, without tasks", 1L, () -> house.load(true));
        house.task(4, 1, 4);
        house.task(6, 2, 6);
        house.task(12, 3, 12);
        Check.due("25: above", 5L, () -> house.load(false));
        Check.due("25: below", 6L, () -> house.load(true));
        house.task(6, 1, 6);
        Check.due("25: whole, above", 1L, () -> house.load(false));
        Check.due("25: whole, below", 1L, () -> house.load(true));
        Slicehouse primes = new Slicehouse();
        primes.task(59, 30, 59);
        primes.task(53, 29, 53);
        primes.task(47, 28, 47);
        primes.task(43, 27, 43);
        primes.task(41, 26, 41);
        Check.due("25: great, above", 754891414L, () -> primes.load(false));
        Check.due("25: great, below", 259106347L, () -> primes.load(true));
        Slicehouse heavy = new Slicehouse();
        for (int task = 0; task < 5; task++) {
            heavy.task(30, 30, 30);
        }
        Check.due("25: five, above", 5L, () -> heavy.load(false));
        Check.due("25: five, below", 1L, () -> heavy.load(true));
    }

    private static void promise26Response() {
        Slicehouse house = new Slicehouse();
        house.task(4, 1, 4);
        house.task(6, 2, 6);
        house.task(12, 3, 12);
        Check.due("26: the first", 1, () -> house.response(0));
        Check.due("26: the second", 3, () -> house.response(1));
        Check.due("26: the third", 10, () -> house.response(2));
        Check.outOfBounds("26: no such task", () -> house.response(3));
        Check.outOfBounds("26: no such task", () -> house.response(-1));
        Slicehouse late = new Slicehouse();
        late.task(12, 3, 9);
        late.task(4, 1, 4);
        late.task(6, 2, 6);
        Check.due("26: one later than its deadline", Slicehouse.NONE, () -> late.response(0));
        late.task(7, 7, 7);
        Check.due("26: none at all", Slicehouse.NONE, () -> late.response(3));
        Slicehouse even = new Slicehouse();
        even.task(4, 2, 4);
        even.task(8, 2, 8);
        Check.due("26: a whole number of periods is not rounded up", 4, () -> even.response(1));
        Slicehouse just = new Slicehouse();
        just.task(4, 1, 4);
        just.task(6, 2, 6);
        just.task(12, 3, 10);
        Check.due("26: just in time", 10, () -> just.response(2));
    }

    private static void promise26ResponseOrder() {
        Slicehouse house = new Slicehouse();
        house.task(20, 5, 10);
        house.task(20, 2, 10);
        house.task(20, 1, 9);
        Check.due("26: a less deadline goes ahead", 6, () -> house.response(0));
        Check.due("26: with the same one the lower number", 8, () -> house.response(1));
        Check.due("26: the least deadline", 1, () -> house.response(2));
    }
}
