import java.util.ArrayList;
import java.util.List;

/** Objects with something of everything there is, and all that can be asked of one: some 400 calls, the last ones use it up. */
final class Everything {
    static final int STEPS = 12;
    private static final int[] ROUNDS = {0, 0, 0, 123, 1234, 12345, 123456, 1234567, 12345678};

    private Everything() {
    }

    static int rounds(int n) {
        return ROUNDS[n];
    }

    /** Always the same for the same n. THE TAPE holds the beginning of a text. */
    static BelfryHouse full(int n) {
        BelfryHouse x = new BelfryHouse();
        x.stage(n);
        Check.method(x, "when called jump 1 3; cross;");
        Check.method(x, "turn 1 2;");
        x.ring(0);
        for (int step : new int[] {1, 4, 5, 9, STEPS + 1}) x.call(step, 1);
        Check.due("steps", x.go(STEPS), STEPS);
        x.generator(x.ranked(1));
        x.generator(x.ranked(2));
        x.heads(0, 4);
        for (int bell = 1; bell <= n; bell++) x.ringer(bell, bell == n ? 4 : 2, 0);
        for (int seed = 0; seed < 5; seed++) x.band(seed, 1, 3);
        x.listen();
        x.note(1, Double.doubleToLongBits(0.25));
        x.note(2, Double.doubleToLongBits(Double.NaN));
        for (int sort = 0; sort < 5; sort++) {
            x.board(sort, sort, 4);
            x.fill(sort, 2, sort == 4 ? 1 : 3);
        }
        Check.feed(x, "cros");
        return x;
    }

    static List<Long> asked(BelfryHouse x, int n) {
        List<Long> all = new ArrayList<>();
        askMethods(x, n, all);
        askTheRun(x, all);
        askHeads(x, n, all);
        askTheBand(x, n, all);
        askTheRecording(x, all);
        askTheShelf(x, all);
        useUp(x, n, all);
        return all;
    }

    private static void add(List<Long> all, long answer) {
        all.add(answer);
    }

    private static void askMethods(BelfryHouse x, int n, List<Long> all) {
        for (int method = 0; method < 3; method++) {
            add(all, x.about(method, 0));
            add(all, x.about(method, 1));
            add(all, x.change(method, 0, rounds(n)));
        }
        add(all, x.product(rounds(n), rounds(n)));
    }

    private static void askTheRun(BelfryHouse x, List<Long> all) {
        for (int what = 0; what < 4; what++) add(all, x.run(what));
        for (int k = 0; k <= STEPS + 1; k++) add(all, x.rowAt(k));
        for (int times = 1; times < 4; times++) {
            add(all, x.truth(times, 0));
            add(all, x.truth(times, 1));
        }
    }

    private static void askHeads(BelfryHouse x, int n, List<Long> all) {
        for (int k = 0; k < 16; k++) add(all, x.head(k));
        add(all, x.group());
        for (int i = 0; i < 6; i++) add(all, x.coset(x.ranked(n == 3 ? i : 23 * i)));
    }

    private static void askTheBand(BelfryHouse x, int n, List<Long> all) {
        for (int k = 0; k < 4; k++) {
            for (int bell = 1; bell <= n; bell++) add(all, x.blow(k, bell));
        }
        for (int what = 0; what < 4; what++) add(all, x.ringing(what));
        for (int bell = 1; bell <= n; bell++) add(all, x.slips(bell));
    }

    private static void askTheRecording(BelfryHouse x, List<Long> all) {
        for (int i = 0; i < 30; i++) {
            add(all, x.inOrder(i, 0));
            add(all, x.along(i, 0));
        }
        for (int k = 0; k < 4; k++) add(all, x.heard(k));
        for (int what = 0; what < 4; what++) add(all, x.line(what));
        add(all, x.along(0, 1));
        add(all, x.along(1, 2));
    }

    private static void askTheShelf(BelfryHouse x, List<Long> all) {
        for (int b = 0; b < 8; b++) add(all, x.items(b));
        for (int b = 0; b < 6; b++) {
            for (int i = 0; i < 5; i++) add(all, x.item(b, b % 5, i));
        }
    }

    /** What shows only by a change: the ringers' kinds and skills, the steps that are called, generators, blows, THE TAPE. */
    private static void useUp(BelfryHouse x, int n, List<Long> all) {
        add(all, x.go(4));
        for (int k = STEPS + 1; k <= STEPS + 4; k++) add(all, x.rowAt(k));
        add(all, x.band(99, 0, 2));
        for (int bell = 1; bell <= n; bell++) add(all, x.blow(0, bell));
        add(all, x.free());
        add(all, x.wipe());
        add(all, x.feed(2, 's' | ';' << 8));
        add(all, x.method());
        for (int method = 0; method < 4; method++) add(all, x.about(method, 0));
    }
}
