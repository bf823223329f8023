/** Promises 1 to 4: a new object, muster, discharge, draw. */
public final class MusteringTest {
    private static final String IAE = "IllegalArgumentException";
    private static final String ISE = "IllegalStateException";

    public static void main(String[] args) {
        newObject();
        musterGoesDownToTheFreePlace();
        musterDrawsUpTheFirstCrookedCompany();
        musterDrawsUpTheLowestOfTwo();
        musterDrawsUpToTheLeft();
        musterRefuses();
        dischargeWithNobodyBelow();
        dischargeWithOneSide();
        dischargeWithBothSides();
        dischargeDrawsUpAll();
        dischargeToTheLast();
        dischargeRefuses();
        drawHalves();
        drawOfThePart();
        drawOfTheTopSetsTheMost();
        drawRefuses();
        Runs.end();
    }

    private static void newObject() {
        Runs.run(1, "count 0 = 0; count 1 = -1; count 2 = -1; count 3 = -1; count 4 = 0; count 5 = 0; count 6 = 0; count 7 = 0;"
                + "isThere 0 = false; isThere 999 = false; at 0 = throws.IndexOutOfBoundsException; between 0 999 = 0;"
                + "taller 0 = -1; would 5 = 0; moves 5 = -1; mean = 0.0");
        LopsidedRanks one = new LopsidedRanks();
        LopsidedRanks other = new LopsidedRanks();
        one.muster(7);
        Runs.due(1, "soldiers of another object", other.count(0), 0);
    }

    private static void musterGoesDownToTheFreePlace() {
        LopsidedRanks ranks = Runs.run(2, "muster 500 = 0; muster 0 = 1; muster 999 = 1; muster 250 = 2; muster 750 = 2; muster 251 = 3");
        Runs.go(2, ranks, "told 500 1 = -1; told 500 2 = 0; told 500 3 = 999; told 0 1 = 500; told 0 3 = 250; told 999 2 = 750;"
                + "told 250 1 = 0; told 250 2 = -1; told 250 3 = 251; told 750 1 = 999; count 0 = 6; count 5 = 0; count 7 = 6");
    }

    private static void musterDrawsUpTheFirstCrookedCompany() {
        LopsidedRanks ranks = Runs.run(2, "muster 10 = 0; muster 20 = 1; muster 30 = 2; muster 40 = 3; count 5 = 0; muster 50 = 3");
        Runs.go(2, ranks, "count 5 = 1; count 6 = 4; count 7 = 5; told 10 3 = 30; told 30 2 = 20; told 30 3 = 40; told 40 3 = 50; told 20 1 = 30");
    }

    private static void musterDrawsUpTheLowestOfTwo() {
        // 40 (3 of 4) and 10 at the top (6 of 7) are crooked then; 60 and 50, with two thirds, are not
        LopsidedRanks ranks = new LopsidedRanks();
        Runs.musterAll(ranks, 10, 30, 20, 40, 50, 60);
        Runs.go(2, ranks, "count 2 = 4; count 5 = 0; moves 70 = 40; muster 70 = 4; count 1 = 10; count 5 = 1; count 6 = 4; count 7 = 7;"
                + "told 30 3 = 50; told 50 2 = 40; told 50 3 = 60; told 60 3 = 70; told 30 2 = 20");
    }

    private static void musterDrawsUpToTheLeft() {
        LopsidedRanks ranks = new LopsidedRanks();
        Runs.musterAll(ranks, 90, 80, 70, 60);
        Runs.go(2, ranks, "muster 50 = 2; count 1 = 90; told 90 2 = 60; told 60 1 = 90; told 60 2 = 50; told 60 3 = 70; told 70 3 = 80; count 6 = 4");
    }

    private static void musterRefuses() {
        LopsidedRanks ranks = new LopsidedRanks();
        Runs.refused(2, ranks, IAE, "muster -1", "muster 1000", "muster -2147483648", "muster 2147483647");
        for (int i = 0; i < 149; i++) {
            ranks.muster(i * 6);
        }
        Runs.refused(2, ranks, ISE, "muster 0", "muster 600", "muster 888");
        ranks.muster(999);
        Runs.go(2, ranks, "count 0 = 150");
        Runs.refused(2, ranks, ISE, "muster 0", "muster 1", "muster 998", "muster 999");
        Runs.refused(2, ranks, IAE, "muster -1", "muster 1000");
        ranks.discharge(0);
        Runs.due(2, "muster 1 where there are 149", Runs.caught(() -> ranks.muster(1)).startsWith("throws"), false);
    }

    private static void dischargeWithNobodyBelow() {
        Runs.go(3, Runs.seven(), "discharge 10 = false; isThere 10 = false; told 20 2 = -1; told 20 3 = 30; told 40 4 = 6; count 5 = 0; count 7 = 7;"
                + "discharge 30 = false; told 20 3 = -1; told 20 4 = 1; told 40 4 = 5; at 0 = 20; at 1 = 40");
    }

    private static void dischargeWithOneSide() {
        LopsidedRanks ranks = Runs.seven();
        ranks.muster(5);
        ranks.muster(75);
        Runs.go(3, ranks, "discharge 10 = false; told 20 2 = 5; told 5 1 = 20; told 5 0 = 2;"
                + "discharge 70 = false; told 60 3 = 75; told 75 1 = 60; told 60 4 = 3; told 40 4 = 7");
        LopsidedRanks two = new LopsidedRanks();
        Runs.musterAll(two, 9, 8, 7);
        Runs.go(3, two, "discharge 9 = false; count 1 = 8; told 8 1 = -1; told 8 0 = 0; told 8 2 = 7; told 8 4 = 2; count 7 = 3");
    }

    private static void dischargeWithBothSides() {
        // the next taller one stands right below
        LopsidedRanks ranks = Runs.seven();
        ranks.muster(80);
        Runs.go(3, ranks, "discharge 60 = false; told 40 3 = 70; told 70 1 = 40; told 70 2 = 50; told 70 3 = 80; told 50 1 = 70; told 80 1 = 70; told 70 4 = 3");
        // it stands deeper, and another one to the right of it
        LopsidedRanks deep = Runs.seven();
        deep.muster(55);
        Runs.go(3, deep, "discharge 40 = false; count 1 = 50; told 50 1 = -1; told 50 2 = 20; told 50 3 = 60; told 20 1 = 50; told 60 1 = 50;"
                + "told 60 2 = 55; told 55 1 = 60; told 60 4 = 3; told 50 4 = 7; told 50 7 = 3; isThere 40 = false; count 0 = 7");
    }

    private static void dischargeDrawsUpAll() {
        // 7 were the most: 5 are not less than two thirds of them (15, 14), 4 are (12, 14)
        LopsidedRanks ranks = Runs.seven();
        Runs.go(3, ranks, "discharge 10 = false; discharge 20 = false; count 7 = 7; count 5 = 0; discharge 30 = true; count 7 = 4; count 5 = 1; count 6 = 4;"
                + "count 1 = 50; told 50 2 = 40; told 50 3 = 60; told 60 3 = 70; told 50 1 = -1");
        // two thirds to the very soldier are not less: 6, then 4
        LopsidedRanks six = new LopsidedRanks();
        Runs.musterAll(six, 40, 20, 60, 10, 30, 50);
        Runs.go(3, six, "discharge 10 = false; discharge 20 = false; count 7 = 6; count 5 = 0; discharge 30 = true; count 7 = 3; count 6 = 3");
        // the most stays as it was while soldiers come and go
        LopsidedRanks swaying = Runs.seven();
        Runs.go(3, swaying, "discharge 10 = false; discharge 30 = false; muster 10 = 2; count 7 = 7; discharge 10 = false; discharge 50 = true");
    }

    private static void dischargeToTheLast() {
        Runs.run(3, "muster 1 = 0; muster 2 = 1; discharge 1 = true; count 5 = 1; count 6 = 1; count 7 = 1; count 1 = 2;"
                + "discharge 2 = false; count 5 = 1; count 6 = 1; count 7 = 0; count 0 = 0; count 1 = -1; muster 3 = 0; count 7 = 1");
    }

    private static void dischargeRefuses() {
        LopsidedRanks ranks = Runs.seven();
        Runs.refused(3, ranks, IAE, "discharge -1", "discharge 1000", "discharge 2147483647");
        Runs.refused(3, ranks, ISE, "discharge 0", "discharge 41", "discharge 999");
        Runs.refused(3, new LopsidedRanks(), ISE, "discharge 0", "discharge 999");
        Runs.refused(3, new LopsidedRanks(), IAE, "discharge -1", "discharge 1000");
    }

    private static void drawHalves() {
        // of an even many the one ahead of the middle is the captain
        LopsidedRanks ranks = new LopsidedRanks();
        Runs.musterAll(ranks, 10, 20, 30, 40);
        Runs.go(4, ranks, "draw 10 = 20; count 1 = 20; told 20 2 = 10; told 20 3 = 30; told 30 3 = 40; told 30 2 = -1; count 5 = 1; count 6 = 4;"
                + "draw 20 = 20; count 5 = 2; count 6 = 8; draw 10 = 10; count 5 = 3; count 6 = 9");
    }

    private static void drawOfThePart() {
        LopsidedRanks ranks = new LopsidedRanks();
        Runs.musterAll(ranks, 50, 60, 70, 80, 10);
        Runs.go(4, ranks, "draw 60 = 70; told 50 3 = 70; told 70 1 = 50; told 70 2 = 60; told 70 3 = 80; told 50 2 = 10; count 6 = 3; count 1 = 50;"
                + "told 70 4 = 3; told 60 4 = 1; told 50 4 = 5");
        LopsidedRanks left = new LopsidedRanks();
        Runs.musterAll(left, 50, 40, 30, 60, 20);
        Runs.go(4, left, "draw 40 = 30; told 50 2 = 30; told 30 1 = 50; told 30 2 = 20; told 30 3 = 40; told 40 2 = -1");
    }

    private static void drawOfTheTopSetsTheMost() {
        LopsidedRanks ranks = Runs.seven();
        Runs.go(4, ranks, "discharge 10 = false; discharge 30 = false; draw 20 = 20; count 7 = 7; draw 60 = 60; count 7 = 7; draw 40 = 50; count 7 = 5; discharge 70 = false;"
                + "count 7 = 5; discharge 60 = true; count 7 = 3");
    }

    private static void drawRefuses() {
        LopsidedRanks ranks = Runs.seven();
        Runs.refused(4, ranks, IAE, "draw -1", "draw 1000", "draw -2147483648");
        Runs.refused(4, ranks, ISE, "draw 0", "draw 41", "draw 999");
        Runs.refused(4, new LopsidedRanks(), ISE, "draw 0");
        Runs.refused(4, new LopsidedRanks(), IAE, "draw -1");
    }
}
