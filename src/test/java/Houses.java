/** Houses that several tests use. */
final class Houses {
    private Houses() {
    }

    /** A house with jobs, each told by when it comes, its length, its deadline and its weight. */
    static Slicehouse with(int[]... jobs) {
        Slicehouse house = new Slicehouse();
        for (int[] job : jobs) {
            house.job(job[0], job[1], job[2], job[3]);
        }
        return house;
    }

    static int[] job(int comes, int length) {
        return new int[] {comes, length, 0, 1};
    }

    static int[] due(int comes, int length, int deadline) {
        return new int[] {comes, length, deadline, 1};
    }

    static int[] weighing(int comes, int length, int weight) {
        return new int[] {comes, length, 0, weight};
    }

    /** A job of the rank 1 has a lock that one of the rank 9 needs, and one of the rank 5 comes between. */
    static Slicehouse inverted(int change, boolean lending) {
        Slicehouse house = with(weighing(0, 4, 1), weighing(2, 3, 5), weighing(1, 2, 9));
        house.lock(0, 0, 0, 3);
        house.lock(2, 0, 0, 1);
        house.turns(2, change, 20, 1, lending);
        return house;
    }

    /** Two jobs of three moments each, at the moment 0. */
    static Slicehouse twins() {
        return with(job(0, 3), job(0, 3));
    }
}
