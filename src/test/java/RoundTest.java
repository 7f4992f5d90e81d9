import java.math.BigInteger;

/** Ints that go round: the draws of LOTS, and the checksum; each is worked out here with numbers that never go round. */
public final class RoundTest {
    private static final BigInteger ROUND = BigInteger.ONE.shiftLeft(32);
    private static final int LOW = Integer.MIN_VALUE;
    private static final int HIGH = Integer.MAX_VALUE;

    private RoundTest() {
    }

    public static void main(String[] args) {
        promise7FirstDraws();
        promise7DrawAtTheBoundsOfAWeight();
        promise7DrawAfterDraw();
        promise7ADrawIsMadeForOneJobToo();
        promise7NoDrawAtAnIdleMoment();
        promise7NoDrawInASlice();
        promise7NoDrawWhileItChanges();
        promise7EachRunBeginsWithTheSeed();
        promise7TheDrawIsOfThoseThatAreReady();
        promise18ChecksumJustAheadOfTheRound();
        promise18ChecksumGoesRound();
        promise18ChecksumOfAllSigns();
        Check.end("RoundTest");
    }

    /** The seed behind one more step, from 0 to what an int without a sign holds. */
    private static BigInteger next(BigInteger seed) {
        return seed.multiply(BigInteger.valueOf(1103515245)).add(BigInteger.valueOf(12345)).mod(ROUND);
    }

    private static int drawOf(BigInteger seed, int n) {
        return seed.shiftRight(16).mod(BigInteger.valueOf(n)).intValueExact();
    }

    /** The order in which jobs of one moment each work, if all are ready at 0. */
    private static String order(int seed, int... weights) {
        int[] rest = weights.clone();
        StringBuilder order = new StringBuilder();
        BigInteger state = BigInteger.valueOf(seed);
        for (int turn = 0; turn < weights.length; turn++) {
            int n = 0;
            for (int weight : rest) {
                n += weight;
            }
            state = next(state);
            int draw = drawOf(state, n);
            int job = 0;
            int upTo = rest[0];
            while (upTo <= draw) {
                job++;
                upTo += rest[job];
            }
            rest[job] = 0;
            order.append((char) ('a' + job));
        }
        return order.toString();
    }

    private static Slicehouse weighing(int seed, int... weights) {
        Slicehouse house = new Slicehouse();
        for (int weight : weights) {
            house.job(0, 1, 0, weight);
        }
        house.turns(1, 0, 0, seed, false);
        return house;
    }

    private static void promise7FirstDraws() {
        // (seed * 1103515245 + 12345) >>> 16: 0, 16838, 48697, 32768 and 15929; of 108 they are 0, 98, 97, 44 and 53.
        checkFirst(0, 0);
        checkFirst(1, 10);
        checkFirst(-1, 10);
        checkFirst(LOW, 4);
        checkFirst(HIGH, 5);
    }

    private static void checkFirst(int seed, int due) {
        Slicehouse house = weighing(seed, 9, 9, 9, 9, 9, 9, 9, 9, 9, 9, 9, 9);
        house.run(Slicehouse.LOTS);
        Check.due("7: the first draw with the seed " + seed, due, () -> house.running(0));
    }

    private static void promise7DrawAtTheBoundsOfAWeight() {
        // With the least seed the draw is the rest of 32768: 8 of 9, 8 of 10, 0 of 8.
        Check.run("7: the sum is the draw, not greater", weighing(LOW, 8, 1), Slicehouse.LOTS, "ba");
        Check.run("7: the sum is greater by one", weighing(LOW, 9, 1), Slicehouse.LOTS, "ab");
        Check.run("7: the last one of the draws", weighing(LOW, 7, 1, 1), Slicehouse.LOTS, "cab");
        Check.run("7: the draw 0", weighing(LOW, 1, 7), Slicehouse.LOTS, "ab");
    }

    private static void promise7DrawAfterDraw() {
        int[] seeds = {0, 1, 2, -1, -2, LOW, LOW + 1, HIGH, HIGH - 1, 65535, 65536, -65536, 12345, 4711, 1 << 30, -(1 << 30)};
        for (int seed : seeds) {
            checkOrder(seed, 9, 1, 8, 2, 7, 3, 6, 4, 5, 9, 1, 9);
            checkOrder(seed, 1, 1, 1, 1, 1, 1, 1, 1, 1, 1, 1, 1);
            checkOrder(seed, 1, 9);
        }
    }

    private static void checkOrder(int seed, int... weights) {
        Check.run("7: the seed " + seed, weighing(seed, weights), Slicehouse.LOTS, order(seed, weights));
    }

    private static void promise7ADrawIsMadeForOneJobToo() {
        for (int number = 0; number < 40; number++) {
            int seed = 7 - 1000003 * number;
            Slicehouse house = Houses.with(Houses.weighing(0, 2, 5), Houses.weighing(2, 1, 5), Houses.weighing(2, 1, 9));
            house.turns(1, 0, 0, seed, false);
            BigInteger third = next(next(next(BigInteger.valueOf(seed))));
            Check.run("7: two draws for a alone, with " + seed, house, Slicehouse.LOTS, drawOf(third, 14) < 5 ? "aabc" : "aacb");
        }
    }

    private static void promise7NoDrawAtAnIdleMoment() {
        for (int number = 0; number < 40; number++) {
            int seed = 5 + 7000001 * number;
            Slicehouse house = Houses.with(Houses.weighing(3, 1, 5), Houses.weighing(3, 1, 9));
            house.turns(1, 0, 0, seed, false);
            String due = drawOf(next(BigInteger.valueOf(seed)), 14) < 5 ? "---ab" : "---ba";
            Check.run("7: none at an idle moment, with " + seed, house, Slicehouse.LOTS, due);
        }
    }

    private static void promise7NoDrawInASlice() {
        for (int number = 0; number < 40; number++) {
            int seed = 5 + 7000001 * number;
            Slicehouse house = Houses.with(Houses.weighing(0, 3, 5), Houses.weighing(1, 1, 5), Houses.weighing(1, 1, 9));
            house.turns(3, 2, 0, seed, false);
            String due = drawOf(next(next(BigInteger.valueOf(seed))), 14) < 5 ? "aaa**b**c" : "aaa**c**b";
            Check.run("7: none in a slice, with " + seed, house, Slicehouse.LOTS, due);
        }
    }

    private static void promise7NoDrawWhileItChanges() {
        for (int number = 0; number < 40; number++) {
            int seed = 11 + 9000001 * number;
            Slicehouse house = weighing(seed, 1, 9, 9);
            house.turns(1, 5, 0, seed, false);
            String due = String.join("*****", order(seed, 1, 9, 9).split(""));
            Check.run("7: none while the worker changes, with " + seed, house, Slicehouse.LOTS, due);
        }
    }

    private static void promise7EachRunBeginsWithTheSeed() {
        Slicehouse house = weighing(HIGH, 9, 1, 8, 2, 7, 3);
        String due = order(HIGH, 9, 1, 8, 2, 7, 3);
        Check.run("7: the first run", house, Slicehouse.LOTS, due);
        Check.run("7: the second run", house, Slicehouse.LOTS, due);
        Check.due("19: the run by LOTS again", true, () -> (house.which() >> Slicehouse.LOTS & 1) == 1);
        house.errors();
        house.best();
        house.run(Slicehouse.RING);
        Check.run("7: a run behind others", house, Slicehouse.LOTS, due);
    }

    private static void promise7TheDrawIsOfThoseThatAreReady() {
        for (int number = 0; number < 40; number++) {
            int seed = 3 + 5000011 * number;
            // a has not come, and b waits for it.
            Slicehouse house = Houses.with(Houses.weighing(3, 1, 9), Houses.weighing(0, 1, 8), Houses.weighing(0, 1, 4), Houses.weighing(0, 1, 3));
            house.after(1, 0);
            house.turns(1, 0, 0, seed, false);
            BigInteger first = next(BigInteger.valueOf(seed));
            Check.run("7: c and d alone are drawn, with " + seed, house, Slicehouse.LOTS, drawOf(first, 7) < 4 ? "cd-ab" : "dc-ab");
        }
    }

    private static void promise18ChecksumJustAheadOfTheRound() {
        // One job: 3 at each moment, so that the sum behind k moments is 3 * (31^k - 1) / 30.
        checkAlone(1, 3);
        checkAlone(2, 96);
        checkAlone(6, 88750368);
        checkAlone(7, -1543705885);
        for (int length = 1; length <= 30; length++) {
            BigInteger power = BigInteger.valueOf(31).pow(length).subtract(BigInteger.ONE);
            checkAlone(length, power.divide(BigInteger.TEN).intValue());
        }
    }

    private static void checkAlone(int length, int due) {
        Slicehouse house = Houses.with(Houses.job(0, length));
        house.run(Slicehouse.RING);
        Check.due("18: of " + length + " moments of the job 0", due, () -> house.checksum());
    }

    private static void promise18ChecksumGoesRound() {
        Slicehouse house = Houses.with(Houses.job(99, 9), Houses.job(98, 9), Houses.job(99, 9));
        house.turns(1, 5, 0, 1, false);
        int length = house.run(Slicehouse.RING);
        BigInteger sum = BigInteger.ZERO;
        for (int moment = 0; moment < length; moment++) {
            sum = sum.multiply(BigInteger.valueOf(31)).add(BigInteger.valueOf(3 + house.running(moment)));
        }
        // The lowest 32 bits of the great number are what an int that goes round holds.
        int due = sum.intValue();
        Check.due("18: of a long run", due, () -> house.checksum());
        Check.due("18: its length", 98 + 27 + 26 * 5, () -> length);
    }

    private static void promise18ChecksumOfAllSigns() {
        Slicehouse house = Houses.with(Houses.job(0, 1), Houses.job(3, 1));
        house.turns(1, 1, 0, 1, false);
        Check.run("18: a job, idle, changes, another job", house, Slicehouse.RING, "a--*b");
        int due = (((3 * 31 + 2) * 31 + 2) * 31 + 1) * 31 + 4;
        Check.due("18: 3, 2, 2, 1, 4", due, () -> house.checksum());
    }
}
