/** Promises 27 to 29: measures of the latest run, and the theorem. */
public final class MeasuresTest {
    private MeasuresTest() {
    }

    public static void main(String[] args) {
        promise27MeanEnd();
        promise28WorkShare();
        promise29Errors();
        promise29ErrorsLeaveTheRun();
        Check.end("MeasuresTest");
    }

    private static void promise27MeanEnd() {
        Slicehouse house = new Slicehouse();
        Check.illegalState("27: no run", () -> house.meanEnd());
        house.run(Slicehouse.RING);
        Check.due("27: without jobs", 0.0, () -> house.meanEnd());
        house.job(0, 3, 0, 1);
        house.job(0, 2, 0, 1);
        house.job(0, 2, 0, 1);
        house.run(Slicehouse.COMING);
        Check.due("27: the mean", 15.0 / 3.0, () -> house.meanEnd());
        house.run(Slicehouse.LEAST_LEFT);
        Check.due("27: the mean", 13.0 / 3.0, () -> house.meanEnd());
    }

    private static void promise28WorkShare() {
        Slicehouse house = new Slicehouse();
        Check.illegalState("28: no run", () -> house.workShare());
        house.run(Slicehouse.RING);
        Check.due("28: without moments", 0.0f, () -> house.workShare());
        house.job(1, 1, 0, 1);
        house.job(1, 1, 0, 1);
        house.turns(2, 4, 0, 1, false);
        house.run(Slicehouse.RING);
        Check.due("28: idle and changing", 2.0f / 7.0f, () -> house.workShare());
        house.turns(2, 0, 0, 1, false);
        house.run(Slicehouse.RING);
        Check.due("28: idle", 2.0f / 3.0f, () -> house.workShare());
        house.clear();
        house.job(0, 9, 0, 1);
        house.run(Slicehouse.RING);
        Check.due("28: all the time", 1.0f, () -> house.workShare());
    }

    private static void promise29Errors() {
        Slicehouse house = new Slicehouse();
        Check.due("29: without jobs", 0, () -> house.errors());
        Check.due("29: locks", 0, () -> Houses.inverted(5, false).errors());
        Check.due("29: lending", 0, () -> Houses.inverted(0, true).errors());
        Check.due("29: too full", 0, () -> Houses.with(Houses.due(50, 5, 10), Houses.due(0, 3, 2)).errors());
        Slicehouse full = new Slicehouse();
        full.turns(1, 5, 1, 77, true);
        for (int job = 0; job < 12; job++) {
            full.job(11 * (job % 4), 30 - job, 20 * job, 1 + job % 9);
        }
        Check.due("29: twelve jobs", 0, () -> full.errors());
        full.after(11, 3);
        full.after(5, 4);
        Check.due("29: jobs that wait", 0, () -> full.errors());
    }

    private static void promise29ErrorsLeaveTheRun() {
        Slicehouse house = Houses.inverted(1, true);
        house.run(Slicehouse.SHORTEST);
        int sum = house.checksum();
        Check.due("29: errors", 0, () -> house.errors());
        Check.due("29: the latest run stays", sum, () -> house.checksum());
        Check.due("29: the lending stays", 2, () -> house.turns(2, 1, 20, 1, true));
        Check.illegalState("29: no run", () -> house.checksum());
        Check.due("29: errors without a run", 0, () -> house.errors());
        Check.illegalState("29: still no run", () -> house.checksum());
    }
}
