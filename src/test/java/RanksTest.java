/** Promises 5 to 11: isThere, told, at, between, captain, taller, count. */
public final class RanksTest {
    private static final String IAE = "IllegalArgumentException";
    private static final String ISE = "IllegalStateException";
    private static final String IOOBE = "IndexOutOfBoundsException";

    public static void main(String[] args) {
        isThere();
        told();
        toldCrooked();
        toldRefuses();
        at();
        between();
        captain();
        taller();
        count();
        countAllowedDepth();
        Runs.end();
    }

    /** 10 at the top; 5 to the left; 40 to the right, with 20 (15 to the left, 30 to the right) and 50 below. */
    private static LopsidedRanks eight() {
        LopsidedRanks ranks = new LopsidedRanks();
        Runs.musterAll(ranks, 10, 5, 40, 20, 50, 15, 30);
        return ranks;
    }

    private static void isThere() {
        LopsidedRanks ranks = eight();
        Runs.go(5, ranks, "isThere 10 = true; isThere 5 = true; isThere 30 = true; isThere 0 = false; isThere 29 = false; isThere 999 = false;"
                + "muster 0 = 2; muster 999 = 3; isThere 0 = true; isThere 999 = true; discharge 30 = false; isThere 30 = false");
        Runs.refused(5, ranks, IAE, "isThere -1", "isThere 1000", "isThere 2147483647", "isThere -2147483648");
    }

    private static void told() {
        Runs.go(6, eight(), "told 10 0 = 0; told 10 1 = -1; told 10 2 = 5; told 10 3 = 40; told 10 4 = 7; told 10 5 = 3; told 10 7 = 1;"
                + "told 5 0 = 1; told 5 1 = 10; told 5 2 = -1; told 5 3 = -1; told 5 4 = 1; told 5 5 = 0; told 5 6 = 0; told 5 7 = 0;"
                + "told 40 0 = 1; told 40 1 = 10; told 40 2 = 20; told 40 3 = 50; told 40 4 = 5; told 40 5 = 2; told 40 6 = 0; told 40 7 = 5;"
                + "told 20 0 = 2; told 20 1 = 40; told 20 4 = 3; told 20 5 = 1; told 20 7 = 3; told 30 0 = 3; told 30 1 = 20; told 30 7 = 4; told 50 7 = 6");
    }

    private static void toldCrooked() {
        // three times 5 are more than twice 7; three times 2 are not more than twice 3
        Runs.go(6, eight(), "told 10 6 = 1");
        Runs.run(6, "muster 10 = 0; told 10 6 = 0; muster 20 = 1; told 10 6 = 0; muster 30 = 2; told 10 6 = 0; muster 25 = 3; told 10 6 = 1; told 20 6 = 0;"
                + "told 30 6 = 0; muster 5 = 1; told 10 6 = 0");
        Runs.run(6, "muster 30 = 0; muster 20 = 1; muster 10 = 2; told 30 6 = 0; muster 15 = 3; told 30 6 = 1; told 20 6 = 0; muster 40 = 1; told 30 6 = 0");
    }

    private static void toldRefuses() {
        LopsidedRanks ranks = eight();
        Runs.refused(6, ranks, IAE, "told -1 0", "told 1000 0", "told -1 8", "told 1000 -1");
        Runs.refused(6, ranks, IOOBE, "told 10 -1", "told 10 8", "told 11 8", "told 11 -1", "told 10 2147483647", "told 10 -2147483648");
        Runs.refused(6, ranks, ISE, "told 11 0", "told 0 7", "told 999 7");
        Runs.refused(6, new LopsidedRanks(), ISE, "told 0 0");
    }

    private static void at() {
        LopsidedRanks ranks = eight();
        Runs.go(7, ranks, "at 0 = 5; at 1 = 10; at 2 = 15; at 3 = 20; at 4 = 30; at 5 = 40; at 6 = 50; discharge 20 = false; at 3 = 30; at 5 = 50");
        Runs.refused(7, ranks, IOOBE, "at -1", "at 6", "at 7", "at 150", "at 2147483647", "at -2147483648");
        LopsidedRanks full = new LopsidedRanks();
        for (int i = 149; i >= 0; i--) {
            full.muster(i * 3);
        }
        Runs.go(7, full, "at 0 = 0; at 149 = 447; at 75 = 225; at 150 = throws.IndexOutOfBoundsException");
    }

    private static void between() {
        LopsidedRanks ranks = eight();
        Runs.go(8, ranks, "between 0 999 = 7; between 5 50 = 7; between 6 49 = 5; between 10 10 = 1; between 11 11 = 0; between 11 14 = 0; between 15 30 = 3;"
                + "between 51 999 = 0; between 0 4 = 0; between 0 5 = 1; between 50 5 = 0; between 999 0 = 0; muster 0 = 2; muster 999 = 3;"
                + "between 0 0 = 1; between 999 999 = 1; between 0 999 = 9");
        Runs.refused(8, ranks, IAE, "between -1 5", "between 5 -1", "between 1000 5", "between 5 1000", "between 1000 -1");
    }

    private static void captain() {
        LopsidedRanks ranks = eight();
        Runs.go(9, ranks, "captain 5 50 = 10; captain 50 5 = 10; captain 15 30 = 20; captain 15 50 = 40; captain 30 50 = 40; captain 20 30 = 20; captain 30 20 = 20;"
                + "captain 40 15 = 40; captain 5 5 = 5; captain 30 30 = 30; captain 10 30 = 10");
        Runs.refused(9, ranks, IAE, "captain -1 5", "captain 5 1000", "captain 6 -1", "captain 1000 6");
        Runs.refused(9, ranks, ISE, "captain 6 5", "captain 5 6", "captain 6 6", "captain 0 999");
    }

    private static void taller() {
        LopsidedRanks ranks = eight();
        Runs.go(10, ranks, "taller 0 = 5; taller 4 = 5; taller 5 = 10; taller 9 = 10; taller 10 = 15; taller 16 = 20; taller 30 = 40; taller 40 = 50; taller 49 = 50;"
                + "taller 50 = -1; taller 999 = -1; muster 999 = 3; taller 50 = 999; taller 998 = 999; taller 999 = -1");
        Runs.refused(10, ranks, IAE, "taller -1", "taller 1000", "taller 2147483647");
    }

    private static void count() {
        LopsidedRanks ranks = eight();
        Runs.go(11, ranks, "count 0 = 7; count 1 = 10; count 2 = 3; count 3 = 4; count 4 = 1; count 5 = 0; count 6 = 0; count 7 = 7;"
                + "draw 10 = 20; count 1 = 20; count 2 = 2; count 4 = 0; count 5 = 1; count 6 = 7; draw 40 = 40; count 5 = 2; count 6 = 10;"
                + "discharge 5 = false; count 0 = 6; count 7 = 7; count 3 = 4; draw 20 = 20; count 7 = 6");
        Runs.refused(11, ranks, IOOBE, "count -1", "count 8", "count 2147483647", "count -2147483648");
        Runs.refused(11, new LopsidedRanks(), IOOBE, "count -1", "count 8");
    }

    private static void countAllowedDepth() {
        // the first number of soldiers with each allowed depth: (3/2)^h, the broken part counted as one
        int[] first = {1, 2, 3, 4, 6, 8, 12, 18, 26, 39, 58, 87, 130, 1000};
        LopsidedRanks ranks = new LopsidedRanks();
        int depth = 0;
        for (int many = 1; many <= 150; many++) {
            ranks.muster(many);
            if (many == first[depth + 1]) {
                depth++;
            }
            Runs.due(11, "count 3 with " + many, ranks.count(3), depth);
        }
    }
}
