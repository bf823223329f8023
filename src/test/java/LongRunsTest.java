/** All promises: long runs of calls, each answer against the same regiment told by Paths. */
public final class LongRunsTest {
    private static final int CALLS = 512;
    private static final int RUNS = 400;

    private final LopsidedRanks ranks = new LopsidedRanks();
    private final Paths paths = new Paths();
    private final int style;
    private long seed;
    private int next;

    private LongRunsTest(int style) {
        this.style = style;
        this.seed = style * 7919L + 17;
        this.next = style % 4 == 0 ? 1000 : -1;
    }

    public static void main(String[] args) {
        for (int style = 0; style < RUNS; style++) {
            LongRunsTest run = new LongRunsTest(style);
            for (int call = 0; call < CALLS; call++) {
                run.step(call);
            }
        }
        Runs.end();
    }

    /** A number from 0 on, less than the bound; the same ones in every run of the test. */
    private int number(int bound) {
        seed = seed * 6364136223846793005L + 1442695040888963407L;
        return (int) ((seed >>> 33) % bound);
    }

    private void step(int call) {
        int kind = number(100);
        int musters = mustersOfHundred(call);
        if (kind < musters) {
            int height = newHeight();
            same(2, "muster", height, () -> ranks.muster(height), () -> paths.muster(height));
        } else if (kind < musters + dischargesOfHundred(call)) {
            int height = heightMostlyThere();
            same(3, "discharge", height, () -> ranks.discharge(height), () -> paths.discharge(height));
        } else if (kind < musters + dischargesOfHundred(call) + 2) {
            int height = heightMostlyThere();
            same(4, "draw", height, () -> ranks.draw(height), () -> paths.draw(height));
        } else {
            ask(number(11));
        }
    }

    /** Some runs grow to the full regiment, some sway, some grow and shrink again. */
    private int mustersOfHundred(int call) {
        return style % 3 == 0 ? 70 : style % 3 == 1 ? 40 : call % 256 < 128 ? 80 : 5;
    }

    private int dischargesOfHundred(int call) {
        return style % 3 == 0 ? 3 : style % 3 == 1 ? 35 : call % 256 < 128 ? 3 : 75;
    }

    /** In some runs downward or upward in a row, which makes the ranks crooked; else anywhere, now and then too far. */
    private int newHeight() {
        if (style % 4 == 0 && next > 4) {
            next -= 1 + number(4);
            return next;
        }
        if (style % 4 == 1 && next < 995) {
            next += 1 + number(4);
            return next;
        }
        return number(1004) - 2;
    }

    private int heightMostlyThere() {
        int there = paths.count(0);
        return there == 0 || number(20) == 0 ? number(1004) - 2 : paths.at(number(there));
    }

    private void ask(int which) {
        int a = heightMostlyThere();
        int b = heightMostlyThere();
        int any = number(1004) - 2;
        int what = number(10) - 1;
        int place = number(154) - 2;
        switch (which) {
            case 0: same(5, "isThere", any, () -> ranks.isThere(any), () -> paths.isThere(any)); break;
            case 1: same(6, "told " + what + " of", a, () -> ranks.told(a, what), () -> paths.told(a, what)); break;
            case 2: same(7, "at", place, () -> ranks.at(place), () -> paths.at(place)); break;
            case 3: same(8, "between " + any, b, () -> ranks.between(any, b), () -> paths.between(any, b)); break;
            case 4: same(9, "captain " + a, b, () -> ranks.captain(a, b), () -> paths.captain(a, b)); break;
            case 5: same(10, "taller", any, () -> ranks.taller(any), () -> paths.taller(any)); break;
            case 6: same(11, "count", what, () -> ranks.count(what), () -> paths.count(what)); break;
            case 7: same(12, "would", any, () -> ranks.would(any), () -> paths.would(any)); break;
            case 8: same(13, "moves", any, () -> ranks.moves(any), () -> paths.moves(any)); break;
            case 9: same(14, "mean", 0, () -> ranks.mean(), () -> paths.mean()); break;
            default: same(15, "digest", 0, () -> ranks.digest(), () -> paths.digest()); break;
        }
    }

    private void same(int promise, String call, int argument, java.util.function.Supplier<Object> got,
            java.util.function.Supplier<Object> want) {
        Runs.due(promise, "run " + style + ": " + call + " " + argument, Runs.caught(got), Runs.caught(want));
    }
}
