import java.math.BigInteger;

/** The boundary cases in promises 1 to 15: one test for each sentence that names one, and it quotes the sentence. */
public final class PromisesEdgesTest {
    private static final String IAE = "IllegalArgumentException";
    private static final String ISE = "IllegalStateException";
    private static final String IOOBE = "IndexOutOfBoundsException";
    private static final int FULL = 150;

    public static void main(String[] args) {
        newObject();
        musterDepthThen();
        musterOddHeight();
        musterOneThereOrFull();
        dischargeWhetherAll();
        dischargeOddHeight();
        dischargeNoSuchSoldier();
        drawCaptainThen();
        drawOddHeight();
        drawNoSuchSoldier();
        isThere();
        isThereOddHeight();
        toldNobody();
        toldDeepest();
        toldCrooked();
        toldPlace();
        toldOddHeight();
        toldOddWhat();
        toldNoSuchSoldier();
        atEveryPlace();
        atNoSuchPlace();
        betweenWithBoth();
        betweenTurnedRound();
        betweenOddHeight();
        captainDeepest();
        captainOddHeight();
        captainNoSuchSoldier();
        tallerLeast();
        tallerNobody();
        tallerOddHeight();
        countWithoutAny();
        countDrawings();
        countOddWhat();
        wouldAheadOfDrawingUp();
        wouldOneThere();
        wouldOddHeight();
        movesTopNow();
        movesNobody();
        movesOneThere();
        movesHoweverMany();
        movesOddHeight();
        meanOfAll();
        meanWithoutAny();
        digestOfEverything();
        digestWrapsAround();
        Runs.end();
    }

    /** 0, 6, 12 and so on to 894. */
    private static LopsidedRanks full() {
        return Runs.byRanks(0, 6, FULL);
    }

    private static LopsidedRanks nobody() {
        return new LopsidedRanks();
    }

    private static LopsidedRanks allGone() {
        return Runs.run(3, "muster 40 = 0; discharge 40 = false");
    }

    private static void newObject() {
        Runs.says("Creates a regiment without soldiers.");
        Runs.go(1, nobody(), "count 0 = 0; count 7 = 0; between 0 999 = 0; taller 0 = -1; mean = 0.0; count 5 = 0; count 6 = 0");
        LopsidedRanks one = Runs.seven();
        Runs.go(1, nobody(), "count 0 = 0; isThere 40 = false");
        Runs.go(1, one, "count 0 = 7; isThere 40 = true");
    }

    private static void musterDepthThen() {
        Runs.says("Returns the depth of this one then.");
        // 4 deep ahead of the drawing up, 3 or 2 then; the one who is mustered becomes the captain: 1
        Runs.run(2, "muster 10 = 0; muster 20 = 1; muster 30 = 2; muster 40 = 3; would 50 = 4; muster 50 = 3; told 50 0 = 3");
        Runs.run(2, "muster 50 = 0; muster 40 = 1; muster 30 = 2; muster 20 = 3; would 10 = 4; muster 10 = 2; told 10 0 = 2");
        Runs.run(2, "muster 10 = 0; muster 20 = 1; muster 30 = 2; muster 25 = 3; would 22 = 4; muster 22 = 1; told 22 0 = 1");
    }

    private static void musterOddHeight() {
        Runs.says("muster: IllegalArgumentException if height is not 0 to 999");
        Runs.refused(2, nobody(), IAE, "muster -1", "muster 1000");
        Runs.refused(2, Runs.seven(), IAE, "muster -1", "muster 1000", "muster -2147483648", "muster 2147483647");
        Runs.go(2, Runs.seven(), "muster 0 = 3; muster 999 = 3");
    }

    private static void musterOneThereOrFull() {
        Runs.says("muster: IllegalStateException if there is one of this height, or there are 150");
        LopsidedRanks ranks = Runs.seven();
        ranks.muster(0);
        ranks.muster(999);
        Runs.refused(2, ranks, ISE, "muster 0", "muster 40", "muster 10", "muster 999");
        LopsidedRanks full = full();
        Runs.refused(2, full, ISE, "muster 0", "muster 1", "muster 894", "muster 999");
        Runs.go(2, full, "discharge 894 = false; muster 999 = 7; count 0 = 150");
    }

    private static void dischargeWhetherAll() {
        Runs.says("Returns whether all were drawn up anew.");
        // a company that becomes crooked is no reason; one alone who is left is all
        Runs.run(3, "muster 10 = 0; muster 5 = 1; muster 20 = 1; muster 30 = 2; muster 15 = 2; told 10 6 = 0; discharge 5 = false; told 10 6 = 1; count 5 = 0");
        Runs.go(3, Runs.seven(), "discharge 10 = false; discharge 30 = false; count 5 = 0; discharge 20 = true; count 5 = 1; count 6 = 4");
        Runs.run(3, "muster 1 = 0; muster 2 = 1; discharge 2 = true; count 5 = 1; count 6 = 1; discharge 1 = false; count 5 = 1");
    }

    private static void dischargeOddHeight() {
        Runs.says("discharge: IllegalArgumentException if height is not 0 to 999");
        Runs.refused(3, nobody(), IAE, "discharge -1", "discharge 1000");
        Runs.refused(3, full(), IAE, "discharge -1", "discharge 1000", "discharge -2147483648", "discharge 2147483647");
    }

    private static void dischargeNoSuchSoldier() {
        Runs.says("discharge: IllegalStateException if there is no such soldier");
        Runs.refused(3, nobody(), ISE, "discharge 0", "discharge 999");
        Runs.refused(3, allGone(), ISE, "discharge 40");
        Runs.refused(3, Runs.seven(), ISE, "discharge 0", "discharge 39", "discharge 41", "discharge 999");
    }

    private static void drawCaptainThen() {
        Runs.says("Returns the height of its captain then.");
        Runs.run(4, "muster 0 = 0; draw 0 = 0; muster 999 = 1; draw 999 = 999; draw 0 = 0; count 1 = 0; discharge 0 = true; muster 998 = 1; draw 999 = 998; count 1 = 998");
        Runs.go(4, full(), "draw 444 = 444; draw 894 = 894; draw 888 = 888");
    }

    private static void drawOddHeight() {
        Runs.says("draw: IllegalArgumentException if height is not 0 to 999");
        Runs.refused(4, nobody(), IAE, "draw -1", "draw 1000");
        Runs.refused(4, full(), IAE, "draw -1", "draw 1000", "draw -2147483648", "draw 2147483647");
    }

    private static void drawNoSuchSoldier() {
        Runs.says("draw: IllegalStateException if there is no such soldier");
        Runs.refused(4, nobody(), ISE, "draw 0", "draw 999");
        Runs.refused(4, allGone(), ISE, "draw 40");
        Runs.refused(4, Runs.seven(), ISE, "draw 0", "draw 39", "draw 41", "draw 999");
    }

    private static void isThere() {
        Runs.says("Returns whether there is a soldier of it.");
        Runs.go(5, nobody(), "isThere 0 = false; isThere 999 = false");
        Runs.go(5, allGone(), "isThere 40 = false");
        Runs.go(5, Runs.seven(), "isThere 40 = true; isThere 39 = false; isThere 41 = false; isThere 10 = true; isThere 9 = false; isThere 70 = true; isThere 71 = false;"
                + "muster 0 = 3; isThere 0 = true; muster 999 = 3; isThere 999 = true; discharge 40 = false; isThere 40 = false; isThere 50 = true");
    }

    private static void isThereOddHeight() {
        Runs.says("isThere: IllegalArgumentException if height is not 0 to 999");
        Runs.refused(5, nobody(), IAE, "isThere -1", "isThere 1000");
        Runs.refused(5, full(), IAE, "isThere -1", "isThere 1000", "isThere -2147483648", "isThere 2147483647");
    }

    private static void toldNobody() {
        Runs.says("1 who stands above, 2 who stands to the left, 3 to the right (-1 for nobody)");
        Runs.go(6, Runs.seven(), "told 40 1 = -1; told 40 2 = 20; told 40 3 = 60; told 10 1 = 20; told 10 2 = -1; told 10 3 = -1; muster 5 = 3; told 10 2 = 5; told 10 3 = -1;"
                + "discharge 5 = false; muster 15 = 3; told 10 2 = -1; told 10 3 = 15");
        // the height 0 is somebody
        Runs.run(6, "muster 1 = 0; told 1 2 = -1; muster 0 = 1; told 1 2 = 0; told 0 1 = 1; discharge 1 = true; told 0 1 = -1; muster 2 = 1; told 2 1 = 0");
    }

    private static void toldDeepest() {
        Runs.says("5 how much deeper the deepest one of it is");
        Runs.go(6, Runs.seven(), "told 40 5 = 2; told 20 5 = 1; told 10 5 = 0; told 70 5 = 0; muster 5 = 3; told 40 5 = 3; told 20 5 = 2; told 10 5 = 1; told 60 5 = 1;"
                + "discharge 5 = false; told 40 5 = 2; muster 75 = 3; told 40 5 = 3; told 60 5 = 2; told 20 5 = 1");
    }

    private static void toldCrooked() {
        Runs.says("6 1 if it is crooked, else 0");
        Runs.run(6, "muster 5 = 0; told 5 6 = 0; muster 6 = 1; muster 7 = 2; told 5 6 = 0; muster 8 = 3; told 5 6 = 1; told 6 6 = 0; told 8 6 = 0; muster 4 = 1; told 5 6 = 0");
    }

    private static void toldPlace() {
        Runs.says("7 the place by height, from 0");
        LopsidedRanks full = full();
        for (int place = 0; place < FULL; place++) {
            Runs.due(6, "place of " + place * 6, full.told(place * 6, 7), place);
        }
    }

    private static void toldOddHeight() {
        Runs.says("told: IllegalArgumentException if height is not 0 to 999");
        Runs.refused(6, nobody(), IAE, "told -1 0", "told 1000 7");
        Runs.refused(6, full(), IAE, "told -1 0", "told 1000 0", "told -2147483648 7", "told 2147483647 7");
    }

    private static void toldOddWhat() {
        Runs.says("told: IndexOutOfBoundsException if what is not 0 to 7");
        Runs.refused(6, Runs.seven(), IOOBE, "told 40 -1", "told 40 8", "told 40 -2147483648", "told 40 2147483647");
        Runs.go(6, Runs.seven(), "told 40 0 = 0; told 40 7 = 3");
    }

    private static void toldNoSuchSoldier() {
        Runs.says("told: IllegalStateException if there is no such soldier");
        for (int what = 0; what <= 7; what++) {
            Runs.refused(6, nobody(), ISE, "told 0 " + what, "told 999 " + what);
            Runs.refused(6, allGone(), ISE, "told 40 " + what);
            Runs.refused(6, Runs.seven(), ISE, "told 0 " + what, "told 39 " + what, "told 41 " + what, "told 999 " + what);
        }
    }

    private static void atEveryPlace() {
        Runs.says("at: Returns the height of the soldier there.");
        LopsidedRanks full = full();
        for (int place = 0; place < FULL; place++) {
            Runs.due(7, "at " + place, full.at(place), place * 6);
        }
        Runs.go(7, Runs.seven(), "at 0 = 10; at 6 = 70; discharge 10 = false; at 0 = 20; at 5 = 70; discharge 70 = false; at 4 = 60; muster 0 = 2; at 0 = 0; muster 999 = 2; at 6 = 999");
    }

    private static void atNoSuchPlace() {
        Runs.says("at: IndexOutOfBoundsException if there is no such place");
        Runs.refused(7, nobody(), IOOBE, "at -1", "at 0", "at 1");
        Runs.refused(7, allGone(), IOOBE, "at 0");
        Runs.refused(7, Runs.seven(), IOOBE, "at -1", "at 7", "at 149", "at 150", "at -2147483648", "at 2147483647");
        Runs.refused(7, full(), IOOBE, "at -1", "at 150");
        LopsidedRanks fewer = full();
        fewer.discharge(0);
        Runs.refused(7, fewer, IOOBE, "at 149");
    }

    private static void betweenWithBoth() {
        Runs.says("Returns how many soldiers are from the one to the other one, with both");
        Runs.go(8, Runs.seven(), "between 10 70 = 7; between 11 70 = 6; between 10 69 = 6; between 11 69 = 5; between 40 40 = 1; between 41 41 = 0; between 41 49 = 0; between 41 50 = 1;"
                + "between 40 49 = 1; between 0 999 = 7; between 0 9 = 0; between 71 999 = 0; between 0 0 = 0; between 999 999 = 0;"
                + "muster 0 = 3; between 0 0 = 1; muster 999 = 3; between 999 999 = 1; between 0 999 = 9");
        Runs.go(8, nobody(), "between 0 999 = 0; between 0 0 = 0; between 999 999 = 0");
        Runs.go(8, full(), "between 0 894 = 150; between 0 999 = 150; between 1 893 = 148");
    }

    private static void betweenTurnedRound() {
        Runs.says("0 if from is greater than to");
        Runs.go(8, Runs.seven(), "between 70 10 = 0; between 999 0 = 0; between 50 40 = 0; between 41 40 = 0; between 40 39 = 0; between 40 40 = 1");
    }

    private static void betweenOddHeight() {
        Runs.says("between: IllegalArgumentException if from or to is not 0 to 999");
        Runs.refused(8, nobody(), IAE, "between -1 0", "between 0 1000");
        Runs.refused(8, Runs.seven(), IAE, "between -1 40", "between 1000 40", "between 40 -1", "between 40 1000", "between -1 1000", "between 1000 -1",
                "between -2147483648 40", "between 40 2147483647");
    }

    private static void captainDeepest() {
        Runs.says("Returns the height of the deepest one to whose company both belong.");
        // one who is both, one of whom is above the other, at the top, far below it, either way round
        Runs.go(9, Runs.seven(), "captain 40 40 = 40; captain 10 10 = 10; captain 10 20 = 20; captain 20 10 = 20; captain 10 30 = 20; captain 30 10 = 20; captain 30 50 = 40;"
                + "captain 50 30 = 40; captain 40 70 = 40; captain 70 40 = 40; captain 70 60 = 60; captain 50 70 = 60; captain 10 70 = 40; captain 60 60 = 60");
        Runs.run(9, "muster 0 = 0; captain 0 0 = 0; muster 999 = 1; captain 0 999 = 0; captain 999 0 = 0; captain 999 999 = 999");
    }

    private static void captainOddHeight() {
        Runs.says("captain: IllegalArgumentException if a or b is not 0 to 999");
        Runs.refused(9, nobody(), IAE, "captain -1 0", "captain 0 1000");
        Runs.refused(9, Runs.seven(), IAE, "captain -1 40", "captain 40 -1", "captain 1000 40", "captain 40 1000", "captain 41 -1", "captain -1 41",
                "captain -2147483648 40", "captain 40 2147483647");
    }

    private static void captainNoSuchSoldier() {
        Runs.says("captain: IllegalStateException if there is no such soldier");
        Runs.refused(9, nobody(), ISE, "captain 0 0", "captain 0 999");
        Runs.refused(9, allGone(), ISE, "captain 40 40");
        Runs.refused(9, Runs.seven(), ISE, "captain 40 41", "captain 41 40", "captain 41 41", "captain 0 40", "captain 40 999");
    }

    private static void tallerLeast() {
        Runs.says("Returns the least height of a soldier who is taller");
        Runs.go(10, Runs.seven(), "taller 0 = 10; taller 9 = 10; taller 10 = 20; taller 11 = 20; taller 39 = 40; taller 40 = 50; taller 69 = 70; muster 999 = 3; taller 70 = 999;"
                + "taller 998 = 999; muster 0 = 3; taller 0 = 10; muster 1 = 4; taller 0 = 1");
    }

    private static void tallerNobody() {
        Runs.says("taller: -1 if nobody is");
        Runs.go(10, nobody(), "taller 0 = -1; taller 999 = -1");
        Runs.go(10, allGone(), "taller 0 = -1; taller 39 = -1");
        Runs.go(10, Runs.seven(), "taller 70 = -1; taller 71 = -1; taller 999 = -1; muster 999 = 3; taller 999 = -1");
        Runs.go(10, full(), "taller 893 = 894; taller 894 = -1; taller 999 = -1");
    }

    private static void tallerOddHeight() {
        Runs.says("taller: IllegalArgumentException if height is not 0 to 999");
        Runs.refused(10, nobody(), IAE, "taller -1", "taller 1000");
        Runs.refused(10, Runs.seven(), IAE, "taller -1", "taller 1000", "taller -2147483648", "taller 2147483647");
    }

    private static void countWithoutAny() {
        Runs.says("1 the height of the one at the top, -1 without any, 2 the depth of the deepest one, -1 without any, 3 the allowed depth, -1 without any");
        String withoutAny = "count 0 = 0; count 1 = -1; count 2 = -1; count 3 = -1; count 4 = 0; count 7 = 0;";
        Runs.go(11, nobody(), withoutAny + "muster 0 = 0; count 0 = 1; count 1 = 0; count 2 = 0; count 3 = 0; count 4 = 0; count 7 = 1; discharge 0 = false;" + withoutAny);
        Runs.go(11, full(), "count 0 = 150; count 1 = 444; count 2 = 7; count 3 = 12; count 4 = 0; count 7 = 150");
    }

    private static void countDrawings() {
        Runs.says("5 times in all that a company, or all, was drawn up anew (by draw(), too), 6 soldiers in all who were drawn up anew in these");
        // by draw, of one alone as well; by muster; by discharge
        Runs.run(11, "muster 10 = 0; draw 10 = 10; count 5 = 1; count 6 = 1; draw 10 = 10; count 5 = 2; count 6 = 2; muster 20 = 1; muster 30 = 2; muster 40 = 3; muster 50 = 3;"
                + "count 5 = 3; count 6 = 6; draw 50 = 50; count 5 = 4; count 6 = 7; discharge 10 = false; discharge 20 = true; count 5 = 5; count 6 = 10;"
                + "discharge 30 = false; discharge 40 = true; count 5 = 6; count 6 = 11; discharge 50 = false; count 5 = 6; count 6 = 11");
        LopsidedRanks full = full();
        for (int i = 0; i < 300; i++) {
            full.draw(444);
        }
        Runs.go(11, full, "count 5 = 300; count 6 = 45000");
    }

    private static void countOddWhat() {
        Runs.says("count: IndexOutOfBoundsException if what is not 0 to 7");
        Runs.refused(11, nobody(), IOOBE, "count -1", "count 8");
        Runs.refused(11, full(), IOOBE, "count -1", "count 8", "count -2147483648", "count 2147483647");
        Runs.go(11, Runs.seven(), "count 0 = 7; count 7 = 7");
    }

    private static void wouldAheadOfDrawingUp() {
        Runs.says("Returns the depth of a soldier of it who is mustered now, ahead of any drawing up");
        Runs.go(12, nobody(), "would 0 = 0; would 999 = 0");
        Runs.run(12, "muster 10 = 0; would 0 = 1; would 999 = 1; muster 20 = 1; muster 30 = 2; muster 40 = 3; would 50 = 4; would 35 = 4; would 0 = 1; would 15 = 2;"
                + "count 5 = 0; muster 50 = 3");
        LopsidedRanks full = full();
        Runs.go(12, full, "would 999 = 8; would 1 = 7; count 0 = 150");
    }

    private static void wouldOneThere() {
        Runs.says("would: -1 if there is one");
        Runs.go(12, Runs.seven(), "would 40 = -1; would 10 = -1; would 70 = -1; would 71 = 3; would 0 = 3; muster 0 = 3; would 0 = -1; muster 999 = 3; would 999 = -1;"
                + "discharge 40 = false; would 40 = 3");
        Runs.go(12, full(), "would 0 = -1; would 894 = -1");
    }

    private static void wouldOddHeight() {
        Runs.says("would: IllegalArgumentException if height is not 0 to 999");
        Runs.refused(12, nobody(), IAE, "would -1", "would 1000");
        Runs.refused(12, full(), IAE, "would -1", "would 1000", "would -2147483648", "would 2147483647");
    }

    private static void movesTopNow() {
        Runs.says("Returns who stands at the top now of the company that would be drawn up anew, if a soldier of this height was mustered now");
        // now 20 is at its top, then 30 is
        Runs.run(13, "muster 10 = 0; muster 20 = 1; muster 30 = 2; muster 40 = 3; moves 50 = 20; muster 50 = 3; told 10 3 = 30");
        // it is crooked only with this one: ahead of it 20 has 2 of 3
        Runs.run(13, "muster 10 = 0; muster 20 = 1; muster 30 = 2; muster 25 = 3; told 20 6 = 0; moves 22 = 20; told 20 6 = 0; count 5 = 0; muster 22 = 1; told 10 3 = 22");
    }

    private static void movesNobody() {
        Runs.says("-1 if none would be");
        Runs.go(13, nobody(), "moves 0 = -1; moves 999 = -1");
        // as deep as is allowed, though 10 is crooked and stays so
        Runs.run(13, "muster 10 = 0; moves 0 = -1; moves 20 = -1; muster 20 = 1; moves 30 = -1; muster 30 = 2; moves 40 = -1; muster 40 = 3; told 10 6 = 1; moves 25 = -1;"
                + "moves 50 = 20; muster 0 = 1; moves 50 = -1; muster 50 = 4; count 5 = 0");
    }

    private static void movesOneThere() {
        Runs.says("moves: or there is one");
        Runs.run(13, "muster 10 = 0; muster 20 = 1; muster 30 = 2; muster 40 = 3; moves 39 = 20; moves 40 = -1; moves 41 = 20; moves 10 = -1; moves 30 = -1");
    }

    private static void movesHoweverMany() {
        Runs.says("however many there are; nothing is changed");
        LopsidedRanks ranks = new LopsidedRanks();
        Paths paths = new Paths();
        for (int height = 0; height < 149 * 6; height += 6) {
            ranks.muster(height);
            paths.muster(height);
        }
        Runs.go(13, ranks, "count 0 = 149; moves 999 = 864; moves 2 = -1");
        dueMoves(ranks, paths);
        ranks.muster(1);
        paths.muster(1);
        Runs.go(13, ranks, "count 0 = 150; moves 999 = 864; moves 2 = -1; moves 888 = -1");
        dueMoves(ranks, paths);
        Runs.refused(13, ranks, ISE, "muster 999", "muster 2");
    }

    private static void dueMoves(LopsidedRanks ranks, Paths paths) {
        long before = ranks.digest();
        for (int height = 0; height <= 999; height += 9) {
            Runs.due(13, "moves " + height + " with " + paths.count(0), ranks.moves(height), paths.moves(height));
        }
        Runs.due(13, "digest after moves", ranks.digest(), before);
    }

    private static void movesOddHeight() {
        Runs.says("moves: IllegalArgumentException if height is not 0 to 999");
        Runs.refused(13, nobody(), IAE, "moves -1", "moves 1000");
        Runs.refused(13, full(), IAE, "moves -1", "moves 1000", "moves -2147483648", "moves 2147483647");
    }

    private static void meanOfAll() {
        Runs.says("Returns the mean depth of all soldiers");
        Runs.run(14, "muster 10 = 0; mean = 0.0; muster 20 = 1; mean = 0.5; muster 30 = 2; mean = 1.0; muster 5 = 1; mean = 1.0; muster 40 = 3; mean = 1.4");
        Runs.due(14, "mean of seven", Runs.seven().mean(), 10 / 7.0);
        // 1, 2, 4 and so on to 64 in the ranks 0 to 6, and 23 in the rank 7
        Runs.due(14, "mean of 150", full().mean(), (2 + 8 + 24 + 64 + 160 + 384 + 23 * 7) / 150.0);
    }

    private static void meanWithoutAny() {
        Runs.says("mean: 0 without any");
        Runs.go(14, nobody(), "mean = 0.0");
        Runs.go(14, allGone(), "mean = 0.0; muster 5 = 0; mean = 0.0");
    }

    private static void digestOfEverything() {
        Runs.says("what count() tells, in its order; for each soldier, by height, the height, and what told() tells, in its order");
        for (LopsidedRanks ranks : new LopsidedRanks[] {nobody(), allGone(), Runs.seven()}) {
            Runs.due(15, "digest of " + ranks.count(0), ranks.digest(), folded(ranks).longValue());
        }
    }

    private static void digestWrapsAround() {
        Runs.says("d becomes d * 31 + x, which wraps around as a 64-bit integer");
        // 40 are told one by one within 512 calls
        for (int many : new int[] {1, 2, 3, 40}) {
            LopsidedRanks ranks = Runs.byRanks(0, 25, many);
            BigInteger whole = folded(ranks);
            Runs.due(15, "digest of " + many + " needs to wrap", whole.bitLength() > 63, true);
            Runs.due(15, "digest of " + many, ranks.digest(), whole.longValue());
        }
    }

    /** The checksum ahead of any wrapping around. */
    private static BigInteger folded(LopsidedRanks ranks) {
        BigInteger sum = BigInteger.valueOf(1289);
        int soldiers = ranks.count(0);
        for (int what = 0; what <= 7; what++) {
            sum = next(sum, ranks.count(what));
        }
        for (int place = 0; place < soldiers; place++) {
            int height = ranks.at(place);
            sum = next(sum, height);
            for (int what = 0; what <= 7; what++) {
                sum = next(sum, ranks.told(height, what));
            }
        }
        return sum;
    }

    private static BigInteger next(BigInteger sum, int number) {
        return sum.multiply(BigInteger.valueOf(31)).add(BigInteger.valueOf(number));
    }
}
