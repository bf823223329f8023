/** Promises 12 to 15: would, moves, mean, digest. */
public final class WouldTest {
    private static final String IAE = "IllegalArgumentException";

    public static void main(String[] args) {
        would();
        moves();
        fullRegiment();
        mean();
        digest();
        Runs.end();
    }

    private static void would() {
        LopsidedRanks ranks = Runs.run(12, "would 0 = 0; muster 10 = 0; would 10 = -1; would 9 = 1; would 11 = 1; muster 20 = 1; muster 30 = 2; would 25 = 3;"
                + "would 40 = 3; would 5 = 1; muster 40 = 3; would 50 = 4; would 999 = 4; would 0 = 1; would 40 = -1; count 0 = 4; muster 50 = 3");
        Runs.refused(12, ranks, IAE, "would -1", "would 1000", "would 2147483647");
    }

    private static void moves() {
        LopsidedRanks ranks = Runs.run(13, "moves 10 = -1; muster 10 = 0; moves 20 = -1; muster 20 = 1; muster 30 = 2; moves 40 = -1; muster 40 = 3; moves 40 = -1;"
                + "moves 50 = 20; moves 35 = 20; moves 5 = -1; moves 25 = -1; count 5 = 0; count 0 = 4; isThere 50 = false; muster 50 = 3");
        Runs.refused(13, ranks, IAE, "moves -1", "moves 1000", "moves -2147483648");
        LopsidedRanks left = new LopsidedRanks();
        Runs.musterAll(left, 90, 80, 70, 60);
        Runs.go(13, left, "moves 50 = 80; moves 65 = 80; moves 99 = -1; muster 50 = 2");
        LopsidedRanks two = new LopsidedRanks();
        Runs.musterAll(two, 10, 30, 20, 40, 50, 60);
        Runs.go(13, two, "moves 70 = 40; moves 55 = 40; moves 45 = -1; moves 5 = -1; digest = " + two.digest());
    }

    /** With 150 it is still told what one more would do. */
    private static void fullRegiment() {
        LopsidedRanks ranks = new LopsidedRanks();
        for (int i = 0; i < 149; i++) {
            ranks.muster(i * 6);
        }
        ranks.muster(1);
        Runs.go(13, ranks, "count 0 = 150; count 3 = 12; would 999 = 13; moves 999 = 864; moves 888 = -1; moves 2 = -1; count 0 = 150;"
                + "muster 999 = throws.IllegalStateException");
    }

    private static void mean() {
        Runs.run(14, "mean = 0.0; muster 10 = 0; mean = 0.0; muster 20 = 1; mean = 0.5; muster 30 = 2; mean = 1.0; muster 40 = 3; mean = 1.5;"
                + "muster 5 = 1; mean = 1.4; muster 1 = 2; mean = 1.5; muster 3 = 3; mean = " + 12 / 7.0 + "; draw 10 = 10; mean = " + 10 / 7.0);
        Runs.run(14, "muster 1 = 0; discharge 1 = false; mean = 0.0");
    }

    private static void digest() {
        Runs.due(15, "digest of nobody", new LopsidedRanks().digest(), folded(0, -1, -1, -1, 0, 0, 0, 0));
        LopsidedRanks three = new LopsidedRanks();
        Runs.musterAll(three, 20, 30, 10);
        Runs.due(15, "digest of three", three.digest(), folded(3, 20, 1, 2, 0, 0, 0, 3,
                10, 1, 20, -1, -1, 1, 0, 0, 0, 20, 0, -1, 10, 30, 3, 1, 0, 1, 30, 1, 20, -1, -1, 1, 0, 0, 2));
        three.draw(20);
        three.discharge(10);
        Runs.due(15, "digest of two", three.digest(), folded(2, 20, 1, 1, 0, 1, 3, 3,
                20, 0, -1, -1, 30, 2, 1, 0, 0, 30, 1, 20, -1, -1, 1, 0, 0, 1));
    }

    private static long folded(long... numbers) {
        long sum = 1289;
        for (long number : numbers) {
            sum = sum * 31 + number;
        }
        return sum;
    }
}
