/** The boundary cases in "What it is" and "Terms": one test for each sentence that names one, and it quotes the sentence. */
public final class TermsEdgesTest {
    private static final String IAE = "IllegalArgumentException";
    private static final String ISE = "IllegalStateException";
    private static final String IOOBE = "IndexOutOfBoundsException";
    private static final int FULL = 150;

    public static void main(String[] args) {
        everyOneOf512Calls();
        leastAndGreatestHeight();
        noTwoOfOneHeight();
        atMost150();
        topAndOneDeeper();
        smallerLeftTallerRight();
        companyOfOneOrMore();
        crookedWithFew();
        crookedWithAll();
        allowedDepthWithFew();
        allowedDepthWithEachMany();
        drawingUpHalves();
        drawnUpWhereTheCaptainStood();
        firstFreePlace();
        depthJustAllowed();
        allowedDepthWithThisOneIncluded();
        firstCrookedOnTheWayUp();
        dischargeWithNobodyBelow();
        dischargeWithOneSideAlone();
        dischargeWithBothSides();
        nextTallerHasOneToTheRight();
        lessThanTwoThirds();
        mostSinceTheLatestDrawingUp();
        nobodyLeft();
        topDrawnUpSetsTheMost();
        lowerDrawnUpLeavesTheMost();
        exceptionsChangeNothing();
        firstNamedException();
        Runs.end();
    }

    private static LopsidedRanks mustered(int... heights) {
        LopsidedRanks ranks = new LopsidedRanks();
        Runs.musterAll(ranks, heights);
        return ranks;
    }

    private static void everyOneOf512Calls() {
        Runs.says("An object is used for at most 512 calls after it has been made");
        LopsidedRanks ranks = new LopsidedRanks();
        Paths paths = new Paths();
        for (int i = 0; i < 450; i++) {
            int height = i % FULL * 6;
            boolean isMuster = i < FULL || i >= 2 * FULL;
            Object got = isMuster ? (Object) ranks.muster(height) : ranks.discharge(height);
            Object want = isMuster ? (Object) paths.muster(height) : paths.discharge(height);
            Runs.due(1, "call " + (i + 1), got, want);
        }
        for (int i = 450; i < 510; i++) {
            int height = (i - 450) * 12;
            Runs.due(4, "call " + (i + 1), ranks.draw(height), paths.draw(height));
        }
        Runs.due(14, "call 511", ranks.mean(), paths.mean());
        Runs.due(15, "call 512", ranks.digest(), paths.digest());
    }

    private static void leastAndGreatestHeight() {
        Runs.says("Soldiers are told by their heights, 0 to 999");
        Runs.run(2, "muster 0 = 0; muster 999 = 1; isThere 0 = true; isThere 999 = true; at 0 = 0; at 1 = 999; told 0 3 = 999; told 999 1 = 0;"
                + "captain 0 999 = 0; between 0 999 = 2; draw 999 = 999; discharge 0 = true; discharge 999 = false");
        String[] oneHeight = {"muster", "discharge", "draw", "isThere", "taller", "would", "moves"};
        for (String odd : new String[] {"-1", "1000", "-2147483648", "2147483647"}) {
            for (String call : oneHeight) {
                Runs.refused(2, Runs.seven(), IAE, call + " " + odd);
            }
            Runs.refused(2, Runs.seven(), IAE, "told " + odd + " 0", "between " + odd + " 40", "between 40 " + odd,
                    "captain " + odd + " 40", "captain 40 " + odd);
        }
    }

    private static void noTwoOfOneHeight() {
        Runs.says("no two have the same one");
        LopsidedRanks ranks = Runs.seven();
        Runs.refused(2, ranks, ISE, "muster 40", "muster 10", "muster 70");
        Runs.go(2, ranks, "between 40 40 = 1; count 0 = 7; discharge 40 = false; muster 40 = 3; between 40 40 = 1");
        Runs.refused(2, ranks, ISE, "muster 40");
    }

    private static void atMost150() {
        Runs.says("there are at most 150");
        LopsidedRanks ranks = Runs.byRanks(0, 6, FULL - 1);
        Runs.go(2, ranks, "count 0 = 149; muster 999 = 8; count 0 = 150");
        Runs.refused(2, ranks, ISE, "muster 1", "muster 998");
        Runs.go(2, ranks, "discharge 0 = false; count 0 = 149; muster 1 = 6; count 0 = 150");
        Runs.refused(2, ranks, ISE, "muster 0");
    }

    private static void topAndOneDeeper() {
        Runs.says("One stands at the top, at the depth 0; each one who stands below another one, to the left or to the right, is 1 deeper.");
        Runs.go(6, Runs.seven(), "told 40 0 = 0; told 40 1 = -1; told 20 0 = 1; told 60 0 = 1; told 10 0 = 2; told 30 0 = 2; told 50 0 = 2; told 70 0 = 2");
        Runs.run(6, "muster 5 = 0; told 5 0 = 0; discharge 5 = false; muster 6 = 0; told 6 0 = 0");
    }

    private static void smallerLeftTallerRight() {
        Runs.says("Whoever stands to the left of a soldier, and all below, are smaller than this one; to the right, taller.");
        // by 1 smaller and by 1 taller, at the top and all below
        Runs.go(2, mustered(500, 499, 501), "told 500 2 = 499; told 500 3 = 501");
        Runs.go(2, mustered(500, 400, 600, 499, 501), "told 400 3 = 499; told 600 2 = 501; captain 499 400 = 400; captain 501 600 = 600; captain 499 501 = 500");
    }

    private static void companyOfOneOrMore() {
        Runs.says("Company of a soldier: this one, and all below.");
        Runs.go(6, Runs.seven(), "told 10 4 = 1; told 20 4 = 3; told 40 4 = 7; muster 5 = 3; told 10 4 = 2; told 20 4 = 4; told 40 4 = 8; told 60 4 = 3");
        Runs.go(6, Runs.byRanks(0, 6, FULL), "told 444 4 = 150; told 444 1 = -1; told 888 4 = 2; told 894 4 = 1");
    }

    private static void crookedWithFew() {
        Runs.says("It is crooked, if three times the soldiers to the left of this one (with all below), or three times those to the right, are more than twice the company.");
        // 0 of 1; 3 and 4 with 2; 6 and 6 with 3; 9 and 8 with 4
        Runs.run(6, "muster 50 = 0; told 50 6 = 0; muster 60 = 1; told 50 6 = 0; muster 70 = 2; told 50 6 = 0; muster 80 = 3; told 50 6 = 1; count 4 = 1");
        Runs.run(6, "muster 50 = 0; told 50 6 = 0; muster 40 = 1; told 50 6 = 0; muster 30 = 2; told 50 6 = 0; muster 20 = 3; told 50 6 = 1; count 4 = 1");
        // 12 and 12 with 6; 15 and 14 with 7
        Runs.go(6, mustered(50, 40, 70, 60, 80, 75), "told 50 4 = 6; told 50 6 = 0; count 4 = 0; muster 65 = 3; told 50 6 = 1; count 4 = 1");
        Runs.go(6, mustered(50, 60, 30, 40, 20, 25), "told 50 4 = 6; told 50 6 = 0; count 4 = 0; muster 35 = 3; told 50 6 = 1; count 4 = 1");
    }

    private static void crookedWithAll() {
        Runs.says("It is crooked, if three times the soldiers to the left of this one (with all below), or three times those to the right, are more than twice the company.");
        crookedTop(100, 49, 0);
        crookedTop(101, 48, 1);
        crookedTop(49, 100, 0);
        crookedTop(48, 101, 1);
    }

    private static void crookedTop(int toTheLeft, int toTheRight, int crooked) {
        LopsidedRanks ranks = mustered(500);
        Runs.musterByRanks(ranks, 0, 4, toTheLeft);
        Runs.musterByRanks(ranks, 501, 4, toTheRight);
        Runs.go(6, ranks, "count 0 = 150; count 1 = 500; count 5 = 0; told 500 6 = " + crooked + "; count 4 = " + crooked);
    }

    private static void allowedDepthWithFew() {
        Runs.says("0 with 1 soldier, 1 with 2 (3 is not more than 4), 2 with 3 (9 is not more than 12), 3 with 4 (27 is not more than 32), and so on.");
        Runs.run(11, "count 3 = -1; muster 50 = 0; count 3 = 0; muster 20 = 1; count 3 = 1; muster 80 = 1; count 3 = 2; muster 30 = 2; count 3 = 3;"
                + "muster 10 = 2; count 3 = 3; muster 90 = 2; count 3 = 4; muster 70 = 2; count 3 = 4; muster 60 = 3; count 3 = 5");
    }

    private static void allowedDepthWithEachMany() {
        Runs.says("the greatest number h with which 3 multiplied by itself h times is not more than n * (2 multiplied by itself h times)");
        LopsidedRanks growing = new LopsidedRanks();
        for (int many = 1; many <= FULL; many++) {
            growing.muster(many);
            dueAllowedDepth(growing, many);
        }
        LopsidedRanks shrinking = Runs.byRanks(1, 1, FULL);
        for (int many = FULL - 1; many >= 1; many--) {
            shrinking.discharge(many + 1);
            dueAllowedDepth(shrinking, many);
        }
        Runs.go(11, shrinking, "count 0 = 1; count 3 = 0; discharge 1 = false; count 3 = -1");
    }

    private static void dueAllowedDepth(LopsidedRanks ranks, int many) {
        int depth = ranks.count(3);
        Runs.due(11, "allowed depth " + depth + " with " + many, power(3, depth) <= many * power(2, depth), true);
        Runs.due(11, "allowed depth " + (depth + 1) + " with " + many, power(3, depth + 1) <= many * power(2, depth + 1), false);
    }

    private static long power(int base, int times) {
        long power = 1;
        for (int i = 0; i < times; i++) {
            power *= base;
        }
        return power;
    }

    private static void drawingUpHalves() {
        Runs.says("its soldiers, by height, are halved: the one at the place (many - 1) / 2, from 0, is their captain");
        for (int many = 1; many <= FULL; many++) {
            LopsidedRanks ranks = new LopsidedRanks();
            for (int height = 0; height < many; height++) {
                ranks.muster(height);
            }
            int captain = (many - 1) / 2;
            Runs.go(4, ranks, "draw " + ranks.count(1) + " = " + captain + "; count 1 = " + captain + "; told " + captain + " 1 = -1");
            int left = captain == 0 ? -1 : (captain - 1) / 2;
            int right = captain == many - 1 ? -1 : captain + 1 + (many - captain - 2) / 2;
            Runs.go(4, ranks, "told " + captain + " 2 = " + left + "; told " + captain + " 3 = " + right + "; count 2 = " + floorOfLog(many));
        }
    }

    private static int floorOfLog(int many) {
        return 31 - Integer.numberOfLeadingZeros(many);
    }

    private static void drawnUpWhereTheCaptainStood() {
        Runs.says("is their captain, who stands where the captain of the company stood");
        Runs.go(4, mustered(50, 80, 70, 60), "draw 80 = 70; told 50 3 = 70; told 70 1 = 50; told 50 2 = -1; count 1 = 50");
        Runs.go(4, mustered(50, 20, 30, 40), "draw 20 = 30; told 50 2 = 30; told 30 1 = 50; told 50 3 = -1; count 1 = 50");
        Runs.go(4, mustered(50, 60, 70), "draw 50 = 60; told 60 1 = -1; count 1 = 60; told 50 1 = 60");
    }

    private static void firstFreePlace() {
        Runs.says("to the left of each one who is taller, to the right of each one who is smaller, to the first free place");
        Runs.go(2, Runs.seven(), "muster 0 = 3; told 0 1 = 10; told 10 2 = 0; muster 999 = 3; told 999 1 = 70; told 70 3 = 999; muster 39 = 3; told 39 1 = 30;"
                + "muster 41 = 3; told 41 1 = 50; told 50 2 = 41; told 30 3 = 39; count 5 = 0");
        Runs.run(2, "muster 999 = 0; count 1 = 999; muster 0 = 1; told 999 2 = 0; told 999 3 = -1");
    }

    private static void depthJustAllowed() {
        Runs.says("If the depth is more than the allowed depth with all soldiers then");
        // as deep as is allowed, 3 with 5 and with 4, though 10 has a crooked company: nobody; 4 with 5: drawn up
        Runs.run(2, "muster 10 = 0; muster 20 = 1; muster 30 = 2; muster 25 = 3; told 10 6 = 1; count 5 = 0; muster 35 = 3; told 10 6 = 1; count 3 = 3; count 5 = 0");
        Runs.run(2, "muster 10 = 0; muster 20 = 1; muster 30 = 2; muster 25 = 3; muster 22 = 1; count 5 = 1; count 6 = 4; told 10 3 = 22; told 22 3 = 25; told 25 3 = 30");
    }

    private static void allowedDepthWithThisOneIncluded() {
        Runs.says("with all soldiers then, this one included");
        // 1 with 2, 2 with 3, 3 with 4, 4 with 6, 5 with 8, 6 with 12 are allowed; with one less they are not
        Runs.run(2, "muster 10 = 0; muster 20 = 1; muster 30 = 2; muster 40 = 3; muster 5 = 1; muster 50 = 4; count 5 = 0; muster 1 = 2; muster 60 = 5; count 0 = 8; count 5 = 0;"
                + "muster 7 = 2; muster 0 = 3; muster 6 = 3; muster 70 = 6; count 0 = 12; count 5 = 0");
        Runs.run(2, "muster 10 = 0; muster 20 = 1; muster 30 = 2; muster 40 = 3; muster 5 = 1; muster 50 = 4; muster 60 = 4; count 0 = 7; count 5 = 1; count 6 = 4");
        Runs.run(13, "muster 10 = 0; muster 20 = 1; moves 30 = -1; muster 30 = 2; moves 40 = -1; muster 40 = 3; moves 50 = 20; muster 5 = 1; moves 50 = -1");
    }

    private static void firstCrookedOnTheWayUp() {
        Runs.says("the first crooked company on the way up from this one is drawn up anew");
        // 60 (1 of 2) and 50 (2 of 3) are not crooked, 40 (3 of 4) is the first one that is, 10 at the top (6 of 7) the second
        LopsidedRanks right = mustered(10, 30, 20, 40, 50, 60);
        Runs.go(2, right, "moves 70 = 40; muster 70 = 4; count 5 = 1; count 6 = 4; count 1 = 10; told 10 6 = 1; told 30 3 = 50; told 50 2 = 40; told 50 3 = 60; told 60 3 = 70");
        LopsidedRanks left = mustered(90, 70, 80, 60, 50, 40);
        Runs.go(2, left, "moves 30 = 60; muster 30 = 3; count 5 = 1; count 6 = 4; count 1 = 90; told 90 6 = 1; told 70 2 = 40; told 40 3 = 50; told 40 2 = 30; told 50 3 = 60");
    }

    private static void dischargeWithNobodyBelow() {
        Runs.says("A soldier with nobody below goes.");
        Runs.run(3, "muster 5 = 0; discharge 5 = false; isThere 5 = false; count 0 = 0; count 1 = -1");
        Runs.go(3, Runs.seven(), "discharge 10 = false; told 20 2 = -1; told 20 3 = 30; told 20 4 = 2; told 40 4 = 6; discharge 70 = false; told 60 3 = -1; told 60 2 = 50; told 40 4 = 5");
    }

    private static void dischargeWithOneSideAlone() {
        Runs.says("One with somebody on one side alone goes, and that one, with all below, comes into this place.");
        // to the left and to the right of the one above, each with a left side alone and with a right side alone
        Runs.go(3, mustered(50, 20, 80, 10, 5), "discharge 20 = false; told 50 2 = 10; told 10 1 = 50; told 10 2 = 5; told 10 3 = -1; told 10 4 = 2; told 50 4 = 4");
        Runs.go(3, mustered(50, 20, 80, 30, 25), "discharge 20 = false; told 50 2 = 30; told 30 1 = 50; told 30 2 = 25; told 30 4 = 2; told 50 4 = 4");
        Runs.go(3, mustered(50, 80, 20, 70, 75), "discharge 80 = false; told 50 3 = 70; told 70 1 = 50; told 70 3 = 75; told 70 4 = 2; told 50 4 = 4");
        Runs.go(3, mustered(50, 80, 20, 90, 95), "discharge 80 = false; told 50 3 = 90; told 90 1 = 50; told 90 3 = 95; told 90 2 = -1; told 90 4 = 2; told 50 4 = 4");
        // at the top
        Runs.go(3, mustered(50, 20, 10), "discharge 50 = false; count 1 = 20; told 20 1 = -1; told 20 0 = 0; told 20 2 = 10; told 20 4 = 2");
        Runs.go(3, mustered(50, 80, 90), "discharge 50 = false; count 1 = 80; told 80 1 = -1; told 80 0 = 0; told 80 3 = 90; told 80 4 = 2");
    }

    private static void dischargeWithBothSides() {
        Runs.says("One with somebody on both sides goes, and the next taller one (who stands below, and has nobody to the left) comes into this place");
        // right below, with nobody to the right
        Runs.go(3, mustered(50, 20, 80), "discharge 50 = false; count 1 = 80; told 80 1 = -1; told 80 2 = 20; told 80 3 = -1; told 20 1 = 80; told 80 4 = 2");
        // deeper, at the top
        Runs.go(3, Runs.seven(), "discharge 40 = false; count 1 = 50; told 50 0 = 0; told 50 1 = -1; told 50 2 = 20; told 50 3 = 60; told 20 1 = 50; told 60 1 = 50; told 60 2 = -1;"
                + "told 60 4 = 2; told 50 4 = 6; at 3 = 50");
        // to the left and to the right of the one above
        Runs.go(3, Runs.seven(), "discharge 20 = false; told 40 2 = 30; told 30 1 = 40; told 30 2 = 10; told 30 3 = -1; told 10 1 = 30; told 30 4 = 2; told 40 4 = 6;"
                + "discharge 60 = false; told 40 3 = 70; told 70 1 = 40; told 70 2 = 50; told 70 3 = -1; told 50 1 = 70; told 40 4 = 5");
    }

    private static void nextTallerHasOneToTheRight() {
        Runs.says("whoever stands to the right of that one, with all below, comes into the place of that one");
        LopsidedRanks deep = Runs.seven();
        Runs.musterAll(deep, 55, 53);
        Runs.go(3, deep, "discharge 40 = false; count 1 = 50; told 50 2 = 20; told 50 3 = 60; told 60 2 = 55; told 55 1 = 60; told 55 2 = 53; told 55 4 = 2; told 60 4 = 4; told 50 4 = 8");
        LopsidedRanks rightBelow = Runs.seven();
        Runs.musterAll(rightBelow, 80, 75);
        Runs.go(3, rightBelow, "discharge 60 = false; told 40 3 = 70; told 70 2 = 50; told 70 3 = 80; told 80 1 = 70; told 80 2 = 75; told 70 4 = 4; told 40 4 = 8");
    }

    private static void lessThanTwoThirds() {
        Runs.says("if three times all soldiers who are there are less than twice the most that there were since all were drawn up anew the latest (or since the beginning), all are drawn up anew");
        // 6 and 6, then 3 and 6
        Runs.go(3, mustered(1, 2, 3), "discharge 3 = false; count 5 = 0; count 7 = 3; discharge 2 = true; count 5 = 1; count 6 = 1; count 7 = 1");
        // 3 and 4
        Runs.go(3, mustered(1, 2), "discharge 1 = true; count 5 = 1; count 6 = 1; count 7 = 1");
        // 9 and 8; 6 and 8
        Runs.go(3, mustered(10, 20, 30, 40), "discharge 10 = false; count 5 = 0; count 7 = 4; discharge 20 = true; count 1 = 30; count 6 = 2; count 7 = 2");
        // 300 and 300; 297 and 300
        LopsidedRanks full = Runs.byRanks(0, 6, FULL);
        for (int i = 0; i < 50; i++) {
            Runs.due(3, "discharge " + i * 6, full.discharge(i * 6), false);
        }
        Runs.go(3, full, "count 0 = 100; count 5 = 0; count 7 = 150; discharge 300 = true; count 5 = 1; count 6 = 99; count 7 = 99; count 1 = 600; count 2 = 6");
    }

    private static void mostSinceTheLatestDrawingUp() {
        Runs.says("the most that there were since all were drawn up anew the latest (or since the beginning)");
        // it stays while they go, and while they come again up to as many; it grows with one more
        LopsidedRanks ranks = Runs.seven();
        Runs.go(11, ranks, "count 7 = 7; discharge 10 = false; count 7 = 7; muster 10 = 2; count 7 = 7; muster 5 = 3; count 7 = 8; discharge 5 = false; count 7 = 8");
        // 15 and 16; drawn up, the most is 5 again, then 12 and 10, 9 and 10
        Runs.go(11, ranks, "discharge 10 = false; discharge 20 = true; count 7 = 5; discharge 30 = false; count 7 = 5; discharge 70 = true; count 7 = 3; muster 1 = 2; count 7 = 4");
    }

    private static void nobodyLeft() {
        Runs.says("With nobody left nobody is drawn up, and the most is 0.");
        Runs.run(3, "muster 500 = 0; count 7 = 1; discharge 500 = false; count 0 = 0; count 5 = 0; count 6 = 0; count 7 = 0; muster 1 = 0; count 7 = 1;"
                + "discharge 1 = false; count 7 = 0; count 5 = 0; count 6 = 0");
    }

    private static void topDrawnUpSetsTheMost() {
        Runs.says("Whenever the company of the one at the top is drawn up anew, all are, and the most is as many as there are then.");
        Runs.go(4, Runs.seven(), "discharge 10 = false; discharge 30 = false; count 7 = 7; draw 40 = 50; count 7 = 5; count 6 = 5; told 50 2 = 20; told 20 3 = 40; told 50 3 = 60;"
                + "discharge 20 = false; count 7 = 5; discharge 40 = true; count 7 = 3");
        Runs.run(4, "muster 1 = 0; draw 1 = 1; count 5 = 1; count 6 = 1; count 7 = 1");
        LopsidedRanks full = Runs.byRanks(0, 6, FULL);
        Runs.go(4, full, "draw 444 = 444; count 7 = 150; count 6 = 150; discharge 0 = false; count 7 = 150; draw 444 = 450; count 7 = 149; count 6 = 299");
    }

    private static void lowerDrawnUpLeavesTheMost() {
        Runs.says("Whenever the company of the one at the top is drawn up anew");
        // by draw, and by muster: not the top's, thus the most stays as it was
        Runs.go(4, Runs.seven(), "discharge 10 = false; draw 20 = 20; count 5 = 1; count 7 = 7; draw 60 = 60; draw 70 = 70; count 5 = 3; count 7 = 7");
        LopsidedRanks ranks = mustered(10, 5, 20, 30, 40, 50);
        Runs.go(2, ranks, "discharge 5 = false; discharge 50 = false; count 7 = 6; moves 50 = 20; muster 50 = 3; count 5 = 1; count 0 = 5; count 7 = 6");
    }

    private static void exceptionsChangeNothing() {
        Runs.says("A method that throws an exception changes nothing.");
        LopsidedRanks swayed = Runs.seven();
        swayed.draw(20);
        swayed.discharge(70);
        for (LopsidedRanks ranks : new LopsidedRanks[] {new LopsidedRanks(), mustered(5), swayed, Runs.byRanks(0, 6, FULL)}) {
            Runs.refused(2, ranks, IAE, "muster -1", "muster 1000");
            Runs.refused(3, ranks, IAE, "discharge -1", "discharge 1000");
            Runs.refused(4, ranks, IAE, "draw -1", "draw 1000");
            Runs.refused(3, ranks, ISE, "discharge 7", "discharge 999");
            Runs.refused(4, ranks, ISE, "draw 7", "draw 999");
            Runs.refused(6, ranks, IAE, "told -1 0", "told 1000 0");
            Runs.refused(6, ranks, IOOBE, "told 40 -1", "told 40 8");
            Runs.refused(6, ranks, ISE, "told 7 0", "told 999 7");
            Runs.refused(7, ranks, IOOBE, "at -1", "at " + ranks.count(0));
            Runs.refused(9, ranks, ISE, "captain 7 7", "captain 999 7");
            Runs.refused(11, ranks, IOOBE, "count -1", "count 8");
            Runs.refused(5, ranks, IAE, "isThere -1", "between -1 5", "between 5 1000", "captain -1 5", "taller -1", "would -1", "moves 1000");
        }
        Runs.refused(2, swayed, ISE, "muster 40");
        Runs.refused(2, Runs.byRanks(0, 6, FULL), ISE, "muster 0", "muster 7");
    }

    private static void firstNamedException() {
        Runs.says("If several exceptions apply, the one that is named first is thrown.");
        Runs.refused(2, Runs.byRanks(0, 6, FULL), IAE, "muster -1", "muster 1000");
        Runs.refused(3, new LopsidedRanks(), IAE, "discharge -1", "discharge 1000");
        Runs.refused(4, new LopsidedRanks(), IAE, "draw -1", "draw 1000");
        for (LopsidedRanks ranks : new LopsidedRanks[] {new LopsidedRanks(), Runs.seven()}) {
            Runs.refused(6, ranks, IAE, "told -1 -1", "told -1 8", "told 1000 8", "told 1000 -1", "told -1 0", "told 1000 7");
            Runs.refused(6, ranks, IOOBE, "told 11 -1", "told 11 8", "told 0 8", "told 999 -1");
            Runs.refused(9, ranks, IAE, "captain 11 -1", "captain 11 1000", "captain -1 11", "captain 1000 11", "captain -1 1000");
        }
    }
}
