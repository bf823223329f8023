import java.util.ArrayDeque;
import java.util.function.Supplier;

/** Runs of calls, written one a line as "muster 10 = 0", on an object of the class; counts the wrong answers. */
final class Runs {
    private static int wrong = 0;
    private static int checked = 0;
    private static String sentence = "";

    private Runs() {
    }

    /** Names the sentence of the document that the following checks hold to; it is printed with each wrong answer. */
    static void says(String sentenceOfTheDocument) {
        sentence = " [" + sentenceOfTheDocument + "]";
    }

    /** Makes a new object and checks every line of a run against it. */
    static LopsidedRanks run(int promise, String lines) {
        LopsidedRanks ranks = new LopsidedRanks();
        go(promise, ranks, lines);
        return ranks;
    }

    /** Checks every line of a run against an object. */
    static void go(int promise, LopsidedRanks ranks, String lines) {
        for (String line : lines.split("[;\n]")) {
            if (!line.isBlank()) {
                String[] sides = line.split(" = ");
                due(promise, line.strip(), answer(ranks, sides[0].strip()), sides[1].strip());
            }
        }
    }

    /** Checks that every one of these calls throws what is due, and that none changes anything. */
    static void refused(int promise, LopsidedRanks ranks, String exception, String... calls) {
        for (String call : calls) {
            String before = ranks.digest() + " " + ranks.mean();
            due(promise, call, answer(ranks, call), "throws." + exception);
            due(promise, "state after " + call, ranks.digest() + " " + ranks.mean(), before);
        }
    }

    static void musterAll(LopsidedRanks ranks, int... heights) {
        for (int height : heights) {
            mustered(ranks, height);
        }
    }

    private static void mustered(LopsidedRanks ranks, int height) {
        String answer = answer(ranks, "muster " + height);
        if (answer.startsWith("throws")) {
            due(2, "muster " + height, answer, "a depth");
        }
    }

    /** Musters heights from the first one on, so many, a step apart, rank by rank, so that nobody is drawn up. */
    static void musterByRanks(LopsidedRanks ranks, int first, int step, int many) {
        ArrayDeque<int[]> parts = new ArrayDeque<>();
        parts.add(new int[] {0, many});
        while (!parts.isEmpty()) {
            int[] part = parts.remove();
            int middle = part[0] + (part[1] - 1) / 2;
            if (part[1] > 0) {
                mustered(ranks, first + step * middle);
                parts.add(new int[] {part[0], middle - part[0]});
                parts.add(new int[] {middle + 1, part[0] + part[1] - middle - 1});
            }
        }
    }

    static LopsidedRanks byRanks(int first, int step, int many) {
        LopsidedRanks ranks = new LopsidedRanks();
        musterByRanks(ranks, first, step, many);
        return ranks;
    }

    /** 40 at the top, 20 (10, 30) to the left, 60 (50, 70) to the right. */
    static LopsidedRanks seven() {
        return byRanks(10, 10, 7);
    }

    static void due(int promise, String what, Object got, Object want) {
        checked++;
        if (!String.valueOf(got).equals(String.valueOf(want))) {
            wrong++;
            System.out.println("promise " + promise + ": " + what + " answered " + got + ", due is " + want + sentence);
        }
    }

    static String answer(LopsidedRanks ranks, String call) {
        String[] words = call.split(" ");
        int a = words.length > 1 ? Integer.parseInt(words[1]) : 0;
        int b = words.length > 2 ? Integer.parseInt(words[2]) : 0;
        return caught(() -> {
            switch (words[0]) {
                case "muster": return ranks.muster(a);
                case "discharge": return ranks.discharge(a);
                case "draw": return ranks.draw(a);
                case "isThere": return ranks.isThere(a);
                case "told": return ranks.told(a, b);
                case "at": return ranks.at(a);
                case "between": return ranks.between(a, b);
                case "captain": return ranks.captain(a, b);
                case "taller": return ranks.taller(a);
                case "count": return ranks.count(a);
                case "would": return ranks.would(a);
                case "moves": return ranks.moves(a);
                case "mean": return ranks.mean();
                case "digest": return ranks.digest();
                default: throw new Error("no such call: " + call);
            }
        });
    }

    static String caught(Supplier<Object> call) {
        try {
            return String.valueOf(call.get());
        } catch (RuntimeException e) {
            return "throws." + e.getClass().getSimpleName();
        }
    }

    /** Prints how it went, and ends with exit code 1 if an answer was wrong. */
    static void end() {
        System.out.println(checked + " checked, " + wrong + " wrong");
        System.exit(wrong == 0 && checked > 0 ? 0 : 1);
    }
}
