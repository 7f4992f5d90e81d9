/** The examples of README.md, call by call, with the answers and the exceptions that it tells. */
public final class ReadmeTest {
    private static final int FIRST = 0;
    private static final int SECOND = 1;
    private static final int SLOW = 0;

    private ReadmeTest() {
    }

    public static void main(String[] args) {
        Slicehouse house = new Slicehouse();
        Check.illegalState("checksum ahead of run", () -> house.checksum());
        aRunAndQuestionsAboutIt(house);
        refusedCalls(house);
        whatNeedsNoOtherRun(house);
        Check.end("ReadmeTest");
    }

    private static void aRunAndQuestionsAboutIt(Slicehouse house) {
        Check.due("the first job", FIRST, () -> house.job(0, 3, 0, 1));
        Check.due("the second job", SECOND, () -> house.job(1, 2, 9, 5));
        Check.due("turns", 2, () -> house.turns(2, 1, 20, 7, true));
        Check.due("run by RING", 7, () -> house.run(Slicehouse.RING));
        Check.due("running 1", FIRST, () -> house.running(1));
        Check.due("running 2", Slicehouse.CHANGES, () -> house.running(2));
        Check.due("running 3", SECOND, () -> house.running(3));
        Check.due("left", 1, () -> house.left(FIRST, 3));
        Check.due("end", 5, () -> house.end(SECOND));
        Check.due("waits", 4, () -> house.waits(FIRST));
        Check.due("sumOfEnds", 12, () -> house.sumOfEnds());
    }

    private static void refusedCalls(Slicehouse house) {
        Check.outOfBounds("end of a third job", () -> house.end(2));
        Check.illegalArgument("run by a tenth rule", () -> house.run(9));
        Check.noSuchElement("a second busy stretch", () -> house.busy(1, false));
        Check.due("the run is still there", 12, () -> house.sumOfEnds());
    }

    private static void whatNeedsNoOtherRun(Slicehouse house) {
        int rules = 1 << Slicehouse.RING | 1 << Slicehouse.LEVELS | 1 << Slicehouse.SHARES | 1 << Slicehouse.LOTS;
        Check.due("the rules by name", 177, () -> rules);
        Check.due("which", 177, () -> house.which());
        Check.due("best", 3, () -> house.best());
        Check.due("lock of the first job", 1, () -> house.lock(FIRST, 2, 0, 2));
        Check.due("lock of the second job", 1, () -> house.lock(SECOND, 2, 0, 1));
        Check.due("run by RANKS", 7, () -> house.run(Slicehouse.RANKS));
        Check.due("blocked", 1, () -> house.blocked(SECOND));
        Check.due("after", 1, () -> house.after(SECOND, FIRST));
        Check.illegalState("end behind after", () -> house.end(SECOND));
        Check.due("run by LEAST LEFT", 6, () -> house.run(Slicehouse.LEAST_LEFT));
        Check.due("the slow task", SLOW, () -> house.task(10, 3, 10));
        Check.due("the quick task", 1, () -> house.task(4, 1, 4));
        Check.due("end behind task", 6, () -> house.end(SECOND));
        Check.due("load above the line", 11L, () -> house.load(false));
        Check.due("load below the line", 20L, () -> house.load(true));
        Check.due("response", 4, () -> house.response(SLOW));
        Check.due("clear", 2, () -> house.clear());
        Check.due("response behind clear", 4, () -> house.response(SLOW));
    }
}
