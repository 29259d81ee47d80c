import java.util.LinkedHashSet;
import java.util.Set;

/** Holds answers against those that are due; a test's main ends with finish(). */
final class Check {
    private static final int MOST_SHOWN = 20;
    private static final Set<String> SENTENCES = new LinkedHashSet<>();
    private static final Set<String> BROKEN = new LinkedHashSet<>();
    private static String sentence = "";
    private static int asked = 0;
    private static int wrong = 0;

    private Check() {
    }

    /** The document's words that the answers from here on stand for. */
    static void sentence(String words) {
        sentence = words;
        SENTENCES.add(words);
    }

    static void due(String call, long got, long want) {
        asked++;
        if (got == want) return;
        wrong++;
        if (!sentence.isEmpty()) BROKEN.add(sentence);
        if (wrong <= MOST_SHOWN) System.out.println(call + " answered " + got + ", due is " + want);
    }

    static void holds(String what, boolean so) {
        due(what, so ? 1 : 0, 1);
    }

    /** Puts a text on THE TAPE, by eights. */
    static void feed(BelfryHouse x, String text) {
        for (int from = 0; from < text.length(); from += 8) {
            int n = Math.min(8, text.length() - from);
            long bytes = 0;
            for (int i = n - 1; i >= 0; i--) bytes = bytes << 8 | text.charAt(from + i);
            due("feed of " + text + " at " + from, x.feed(n, bytes), from + n);
        }
    }

    static int method(BelfryHouse x, String text) {
        feed(x, text);
        return x.method();
    }

    /** A new object on so many bells that rings the method so many steps. */
    static BelfryHouse rung(int bells, String text, int steps) {
        BelfryHouse x = new BelfryHouse();
        x.stage(bells);
        due("method " + text, method(x, text), 0);
        due("ring", x.ring(0), 0);
        for (int left = steps; left > 0; left -= 500) x.go(Math.min(left, 500));
        due("steps of " + text, x.run(0), steps);
        return x;
    }

    static void finish() {
        for (String words : BROKEN) System.out.println("does not hold: " + words);
        if (!SENTENCES.isEmpty()) System.out.print(SENTENCES.size() + " sentences, ");
        System.out.println(asked + " answers, " + wrong + " wrong");
        if (wrong != 0) System.exit(1);
    }
}
