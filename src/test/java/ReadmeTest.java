/** The calls that README.md shows, with the answers that it tells; a change there is made here, too. */
public final class ReadmeTest {
    public static void main(String[] args) {
        example();
        refusals();
        Runs.end();
    }

    private static void example() {
        Runs.run(2, "muster 10 = 0; muster 20 = 1; told 20 1 = 10; draw 10 = 10; discharge 20 = true; moves 30 = -1");
    }

    private static void refusals() {
        Runs.refused(2, Runs.seven(), "IllegalArgumentException", "muster 1000", "discharge -1", "draw 1000", "isThere -1", "told 1000 0", "between 0 1000",
                "captain -1 40", "taller 1000", "would -1", "moves 1000");
        Runs.refused(6, Runs.seven(), "IndexOutOfBoundsException", "told 40 8", "at 7", "count -1");
        Runs.refused(3, Runs.seven(), "IllegalStateException", "muster 40", "discharge 41", "draw 41", "told 41 0", "captain 40 41");
    }
}
