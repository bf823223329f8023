/** A regiment that stands in ranks below each other. */
public final class LopsidedRanks {
    private static final int TALLEST = 999;
    private static final int ROOM = 150;
    private static final int NOBODY = -1;
    private static final int LAST_QUESTION = 7;
    private static final long DIGEST_START = 1289;

    // 150 soldiers are halved down to nobody after 8 levels
    private static final int MOST_HALVINGS = 40;

    // (3/2)^30 is more than 190,000, far above any number of soldiers; 3^31 still fits into a long
    private static final int DEPTH_BOUND = 30;

    /** One soldier, and who stands next to this one. */
    private static final class Soldier {
        final int height;
        Soldier above;
        Soldier left;
        Soldier right;
        int company;

        Soldier(int height) {
            this.height = height;
            this.company = 1;
        }

        Soldier towards(int otherHeight) {
            return otherHeight < height ? left : right;
        }

        /** Puts a soldier, or nobody, on the side where such a height belongs. */
        void setTowards(int otherHeight, Soldier other) {
            if (otherHeight < height) {
                left = other;
            } else {
                right = other;
            }
            if (other != null) {
                other.above = this;
            }
        }

        int depth() {
            int depth = 0;
            for (Soldier s = above; s != null; s = s.above) {
                depth++;
            }
            return depth;
        }

        boolean hasCrookedCompany() {
            return isCrooked(companyOf(left), companyOf(right));
        }

        /** Whether the company would be crooked with one more soldier, of this height, below. */
        boolean wouldBeCrookedWith(int newHeight) {
            int newLeft = newHeight < height ? 1 : 0;
            return isCrooked(companyOf(left) + newLeft, companyOf(right) + 1 - newLeft);
        }
    }

    // Every soldier who is there, by height, so that each company is one stretch of the line
    private final Soldier[] line;
    private int soldiers;
    private Soldier top;
    private int most;
    private int drawings;
    private int drawnSoldiers;

    /** Creates a regiment without soldiers. */
    public LopsidedRanks() {
        line = new Soldier[ROOM];
    }

    // ---- mustering and discharging

    /** Musters a soldier of this height, and returns the depth of this one then. */
    public int muster(int height) throws IllegalArgumentException, IllegalStateException {
        refuseOddHeight(height);
        if (soldiers >= ROOM || find(height) != null) {
            throw new IllegalStateException("one of this height is there, or there are 150");
        }
        Soldier newcomer = new Soldier(height);
        insertIntoLine(newcomer);
        standBelow(lastOnTheWayTo(height), height, newcomer);
        addToCompaniesAbove(newcomer, 1);
        if (soldiers > most) {
            most = soldiers;
        }
        if (newcomer.depth() > allowedDepth(soldiers)) {
            drawUp(firstCrookedFrom(newcomer));
        }
        return newcomer.depth();
    }

    /** Discharges the soldier of this height, and returns whether all were drawn up anew. */
    public boolean discharge(int height) throws IllegalArgumentException, IllegalStateException {
        refuseOddHeight(height);
        Soldier leaver = find(height);
        if (leaver == null) {
            throw new IllegalStateException("nobody has this height");
        }
        removeFromLine(leaver);
        removeFromRanks(leaver);
        if (soldiers == 0) {
            most = 0;
            return false;
        }
        if (3 * soldiers < 2 * most) {
            drawUp(top);
            return true;
        }
        return false;
    }

    /** Draws the company of a soldier up anew, and returns the height of its captain then. */
    public int draw(int height) throws IllegalArgumentException, IllegalStateException {
        refuseOddHeight(height);
        Soldier chief = find(height);
        if (chief == null) {
            throw new IllegalStateException("nobody has this height");
        }
        return heightOf(drawUp(chief));
    }

    // ---- who stands where

    /** Returns whether there is a soldier of this height. */
    public boolean isThere(int height) throws IllegalArgumentException {
        refuseOddHeight(height);
        return find(height) != null;
    }

    /**
     * Tells of the soldier of this height: 0 the depth, 1 who stands above, 2 to the left, 3 to the right,
     * 4 soldiers of the company, 5 how much deeper its deepest one is, 6 1 if it is crooked, 7 the place by height.
     */
    public int told(int height, int what)
            throws IllegalArgumentException, IndexOutOfBoundsException, IllegalStateException {
        refuseOddHeight(height);
        refuseOddQuestion(what);
        Soldier soldier = find(height);
        if (soldier == null) {
            throw new IllegalStateException("nobody has this height");
        }
        return tell(soldier, what);
    }

    /** Returns the height of the soldier at a place by height, from 0. */
    public int at(int place) throws IndexOutOfBoundsException {
        Soldier soldier = inLine(place);
        if (soldier == null) {
            throw new IndexOutOfBoundsException("there is no such place");
        }
        return soldier.height;
    }

    /** Returns how many soldiers are from the one height to the other one, with both. */
    public int between(int from, int to) throws IllegalArgumentException {
        refuseOddHeight(from);
        refuseOddHeight(to);
        if (from > to) {
            return 0;
        }
        return smallerThan(to + 1) - smallerThan(from);
    }

    /** Returns the height of the deepest soldier to whose company both belong. */
    public int captain(int a, int b) throws IllegalArgumentException, IllegalStateException {
        refuseOddHeight(a);
        refuseOddHeight(b);
        if (find(a) == null || find(b) == null) {
            throw new IllegalStateException("nobody has one of these heights");
        }
        int smaller = Math.min(a, b);
        int larger = Math.max(a, b);
        Soldier common = top;
        while (common != null && (larger < common.height || smaller > common.height)) {
            common = common.towards(smaller);
        }
        return heightOf(common);
    }

    /** Returns the least height of a soldier who is taller; -1 if nobody is. */
    public int taller(int height) throws IllegalArgumentException {
        refuseOddHeight(height);
        return heightOf(inLine(smallerThan(height + 1)));
    }

    /**
     * Counts: 0 soldiers, 1 the height of the one at the top, 2 the depth of the deepest one, 3 the allowed depth,
     * 4 crooked companies, 5 drawings up, 6 soldiers drawn up in these, 7 the most since all were drawn up.
     */
    public int count(int what) throws IndexOutOfBoundsException {
        refuseOddQuestion(what);
        return tally(what);
    }

    // ---- what would be

    /** Returns the depth of a soldier of this height mustered now, ahead of any drawing up; -1 if there is one. */
    public int would(int height) throws IllegalArgumentException {
        refuseOddHeight(height);
        return find(height) != null ? NOBODY : newDepth(lastOnTheWayTo(height));
    }

    /** Returns who stands at the top now of the company that mustering this height would draw up anew; -1 if none. */
    public int moves(int height) throws IllegalArgumentException {
        refuseOddHeight(height);
        if (find(height) != null) {
            return NOBODY;
        }
        Soldier above = lastOnTheWayTo(height);
        if (newDepth(above) <= allowedDepth(soldiers + 1)) {
            return NOBODY;
        }
        for (Soldier s = above; s != null; s = s.above) {
            if (s.wouldBeCrookedWith(height)) {
                return s.height;
            }
        }
        return NOBODY;
    }

    /** Returns the mean depth of all soldiers; 0 without any. */
    public double mean() {
        if (soldiers == 0) {
            return 0;
        }
        int sum = 0;
        for (int place = 0; place < soldiers; place++) {
            sum += depthOf(inLine(place));
        }
        return (double) sum / soldiers;
    }

    /** Computes a checksum of all that count() and told() tell. */
    public long digest() {
        long sum = DIGEST_START;
        for (int what = 0; what <= LAST_QUESTION; what++) {
            sum = sum * 31 + tally(what);
        }
        for (int place = 0; place < soldiers; place++) {
            Soldier soldier = inLine(place);
            sum = sum * 31 + heightOf(soldier);
            for (int what = 0; what <= LAST_QUESTION; what++) {
                sum = sum * 31 + tell(soldier, what);
            }
        }
        return sum;
    }

    // ---- wrong inputs

    private static void refuseOddHeight(int height) {
        if (height < 0 || height > TALLEST) {
            throw new IllegalArgumentException("a height is 0 to 999");
        }
    }

    private static void refuseOddQuestion(int what) {
        if (what < 0 || what > LAST_QUESTION) {
            throw new IndexOutOfBoundsException("what is 0 to 7");
        }
    }

    // ---- soldiers, or nobody

    private static int heightOf(Soldier soldier) {
        return soldier == null ? NOBODY : soldier.height;
    }

    private static int companyOf(Soldier soldier) {
        return soldier == null ? 0 : soldier.company;
    }

    private static int depthOf(Soldier soldier) {
        return soldier == null ? NOBODY : soldier.depth();
    }

    /** The depth of one who comes below a soldier, or to the top if that is nobody. */
    private static int newDepth(Soldier above) {
        return depthOf(above) + 1;
    }

    // ---- the way down from the top

    private Soldier find(int height) {
        Soldier s = top;
        while (s != null && s.height != height) {
            s = s.towards(height);
        }
        return s;
    }

    /** The one below whom a new soldier of this height comes to stand; null without any soldiers. */
    private Soldier lastOnTheWayTo(int height) {
        Soldier last = null;
        for (Soldier s = top; s != null; s = s.towards(height)) {
            last = s;
        }
        return last;
    }

    private int smallerThan(int height) {
        int smaller = 0;
        for (Soldier s = top; s != null; s = s.towards(height)) {
            if (s.height == height) {
                return smaller + companyOf(s.left);
            }
            if (s.height < height) {
                smaller += companyOf(s.left) + 1;
            }
        }
        return smaller;
    }

    // ---- the line by height

    private Soldier inLine(int place) {
        return place >= 0 && place < soldiers && place < line.length ? line[place] : null;
    }

    private void insertIntoLine(Soldier newcomer) {
        int place = soldiers;
        if (place < 0 || place >= line.length) {
            return;
        }
        while (place > 0 && heightOf(line[place - 1]) > newcomer.height) {
            line[place] = line[place - 1];
            place--;
        }
        line[place] = newcomer;
        soldiers++;
    }

    private void removeFromLine(Soldier leaver) {
        int place = smallerThan(leaver.height);
        if (place < 0 || place >= soldiers || soldiers > line.length) {
            return;
        }
        soldiers--;
        for (; place < soldiers; place++) {
            line[place] = line[place + 1];
        }
        line[soldiers] = null;
    }

    // ---- the ranks

    /** Puts a soldier, or nobody, below another one on the side of this height, or to the top if that is nobody. */
    private void standBelow(Soldier above, int height, Soldier soldier) {
        if (above != null) {
            above.setTowards(height, soldier);
            return;
        }
        top = soldier;
        if (soldier != null) {
            soldier.above = null;
        }
    }

    private static void addToCompaniesAbove(Soldier soldier, int change) {
        for (Soldier s = soldier.above; s != null; s = s.above) {
            s.company += change;
        }
    }

    private void removeFromRanks(Soldier leaver) {
        if (leaver.left == null || leaver.right == null) {
            removeWithOneSide(leaver);
            return;
        }
        Soldier heir = leaver.right;
        while (heir.left != null) {
            heir = heir.left;
        }
        // The heir goes first, so that the leaver's sides and company are those that the heir takes over
        removeWithOneSide(heir);
        heir.company = leaver.company;
        heir.left = null;
        heir.right = null;
        standBelow(leaver.above, leaver.height, heir);
        handOver(leaver.left, heir);
        handOver(leaver.right, heir);
    }

    private void removeWithOneSide(Soldier leaver) {
        Soldier heir = leaver.left != null ? leaver.left : leaver.right;
        addToCompaniesAbove(leaver, -1);
        standBelow(leaver.above, leaver.height, heir);
    }

    private static void handOver(Soldier soldier, Soldier newAbove) {
        if (soldier != null) {
            newAbove.setTowards(soldier.height, soldier);
        }
    }

    // ---- drawing up

    private static boolean isCrooked(int toTheLeft, int toTheRight) {
        int company = toTheLeft + 1 + toTheRight;
        return 3 * toTheLeft > 2 * company || 3 * toTheRight > 2 * company;
    }

    /** The allowed depth with so many soldiers; -1 without any. */
    private static int allowedDepth(int many) {
        long threes = 1;
        long twos = many;
        int depth = -1;
        while (depth < DEPTH_BOUND && threes <= twos) {
            depth++;
            threes *= 3;
            twos *= 2;
        }
        return depth;
    }

    private static Soldier firstCrookedFrom(Soldier soldier) {
        Soldier s = soldier;
        while (s != null && !s.hasCrookedCompany()) {
            s = s.above;
        }
        return s;
    }

    /** Draws up the company of a soldier, and returns its captain then. */
    private Soldier drawUp(Soldier chief) {
        if (chief == null) {
            return null;
        }
        Soldier above = chief.above;
        int height = chief.height;
        int many = chief.company;
        int first = smallerThan(height) - companyOf(chief.left);
        Soldier leader = halve(line, first, many, 0);
        standBelow(above, height, leader);
        drawings++;
        drawnSoldiers += many;
        if (above == null) {
            most = soldiers;
        }
        return leader;
    }

    /** Draws up so many soldiers of the line from a place on by halves, and returns their captain. */
    private static Soldier halve(Soldier[] line, int first, int many, int level) {
        if (many <= 0 || level > MOST_HALVINGS) {
            return null;
        }
        int ahead = (many - 1) / 2;
        int middle = first + ahead;
        if (line == null || middle < 0 || middle >= line.length || line[middle] == null) {
            return null;
        }
        Soldier leader = line[middle];
        leader.company = many;
        leader.left = null;
        leader.right = null;
        handOver(halve(line, first, ahead, level + 1), leader);
        handOver(halve(line, middle + 1, many - 1 - ahead, level + 1), leader);
        return leader;
    }

    // ---- what is told and counted

    private int tell(Soldier soldier, int what) {
        if (soldier == null) {
            return NOBODY;
        }
        switch (what) {
            case 0:
                return soldier.depth();
            case 1:
                return heightOf(soldier.above);
            case 2:
                return heightOf(soldier.left);
            case 3:
                return heightOf(soldier.right);
            case 4:
                return soldier.company;
            case 5:
                return deepestBelow(soldier);
            case 6:
                return soldier.hasCrookedCompany() ? 1 : 0;
            default:
                return smallerThan(soldier.height);
        }
    }

    private int tally(int what) {
        switch (what) {
            case 0:
                return soldiers;
            case 1:
                return heightOf(top);
            case 2:
                return deepestBelow(top);
            case 3:
                return allowedDepth(soldiers);
            case 4:
                return crookedCompanies();
            case 5:
                return drawings;
            case 6:
                return drawnSoldiers;
            default:
                return most;
        }
    }

    /** How much deeper than a soldier the deepest one of the company is; -1 for nobody. */
    private int deepestBelow(Soldier chief) {
        if (chief == null) {
            return NOBODY;
        }
        int first = smallerThan(chief.height) - companyOf(chief.left);
        int deepest = 0;
        for (int i = 0; i < chief.company; i++) {
            deepest = Math.max(deepest, stepsUp(inLine(first + i), chief));
        }
        return deepest;
    }

    private static int stepsUp(Soldier from, Soldier to) {
        int steps = 0;
        for (Soldier s = from; s != null && s != to; s = s.above) {
            steps++;
        }
        return steps;
    }

    private int crookedCompanies() {
        int crooked = 0;
        for (int place = 0; place < soldiers; place++) {
            Soldier soldier = inLine(place);
            if (soldier != null && soldier.hasCrookedCompany()) {
                crooked++;
            }
        }
        return crooked;
    }
}
