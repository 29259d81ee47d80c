import java.util.List;

/** What the terms say of all refusals, for each call that refuses. */
final class EdgesOfRefusalsTest {
    private static final int BAD = -1, NO = -2, FULL = -3, NULL = -4, SIZE = -5, INDEX = -6, CAST = -7, STORE = -8, NONE = -9;
    private static final int LEAST = Integer.MIN_VALUE, MOST = Integer.MAX_VALUE;
    private static final int[] FAR = {LEAST, LEAST + 1, -2000000000, -100000, -1000, MOST - 1, MOST, 2000000000, 1 << 30, 1 << 16};

    public static void main(String[] args) {
        constants();
        badChangesNothing();
        failuresChangeNothing();
        farNumbersAreBad();
        noChangesNothing();
        fullChangesNothing();
        badIsAheadOfNo();
        badIsAheadOfFull();
        methodsAskForFullFirst();
        theTapeIsUsedUp();
        fiveHundredAndTwelveCalls();
        Check.finish();
    }

    private interface Call {
        long on(BelfryHouse x);
    }

    /** Refused on one of two objects that are alike: they stay so. */
    private static void refused(String told, int n, long want, Call call) {
        BelfryHouse x = Everything.full(n), y = Everything.full(n);
        Check.due(told + " on " + n, call.on(x), want);
        List<Long> got = Everything.asked(x, n), due = Everything.asked(y, n);
        for (int i = 0; i < due.size(); i++) Check.due("behind " + told + " answer " + i, got.get(i), due.get(i));
    }

    private static void constants() {
        Check.sentence("BAD = -1, NO = -2, FULL = -3, NULL = -4, SIZE = -5, INDEX = -6, CAST = -7, STORE = -8, NONE = -9;");
        int[] got = {BelfryHouse.BAD, BelfryHouse.NO, BelfryHouse.FULL, BelfryHouse.NULL, BelfryHouse.SIZE, BelfryHouse.INDEX,
            BelfryHouse.CAST, BelfryHouse.STORE, BelfryHouse.NONE};
        int[] due = {BAD, NO, FULL, NULL, SIZE, INDEX, CAST, STORE, NONE};
        for (int i = 0; i < due.length; i++) Check.due("constant " + i, got[i], due[i]);
    }

    private static void badChangesNothing() {
        Check.sentence("they change nothing");
        for (int n : new int[] {3, 6}) {
            int rounds = Everything.rounds(n), steps = Everything.STEPS;
            refused("stage 2", n, BAD, x -> x.stage(2));
            refused("stage 9", n, BAD, x -> x.stage(9));
            refused("product", n, BAD, x -> x.product(rounds, 0));
            refused("inverse", n, BAD, x -> x.inverse(0));
            refused("told", n, BAD, x -> x.told(rounds, 3));
            refused("ranked", n, BAD, x -> x.ranked(-1));
            refused("feed 0", n, BAD, x -> x.feed(0, -1));
            refused("feed 9", n, BAD, x -> x.feed(9, -1));
            refused("about", n, BAD, x -> x.about(2, 0));
            refused("change", n, BAD, x -> x.change(0, 2, rounds));
            refused("ring 2", n, BAD, x -> x.ring(2));
            refused("ring -1", n, BAD, x -> x.ring(-1));
            refused("call 2000", n, BAD, x -> x.call(2000, 0));
            refused("call on 2", n, BAD, x -> x.call(steps, 2));
            refused("call on -1", n, BAD, x -> x.call(steps + 1, -1));
            refused("go 0", n, BAD, x -> x.go(0));
            refused("go 501", n, BAD, x -> x.go(501));
            refused("rowAt", n, BAD, x -> x.rowAt(steps + 1));
            refused("run", n, BAD, x -> x.run(4));
            refused("truth", n, BAD, x -> x.truth(10, 0));
            refused("generator", n, BAD, x -> x.generator(rounds + 1));
            refused("coset", n, BAD, x -> x.coset(0));
            refused("heads of no rows", n, BAD, x -> x.heads(0, steps + 1));
            refused("heads backwards", n, BAD, x -> x.heads(3, 2));
            refused("head", n, BAD, x -> x.head(-1));
            refused("ringer of no bell", n, BAD, x -> x.ringer(n + 1, 1, 1));
            refused("ringer of no kind", n, BAD, x -> x.ringer(1, 5, 1));
            refused("ringer of no skill", n, BAD, x -> x.ringer(1, 1, 21));
            refused("band of none", n, BAD, x -> x.band(3, 0, 0));
            refused("band of no rows", n, BAD, x -> x.band(3, steps, 2));
            refused("ringing", n, BAD, x -> x.ringing(4));
            refused("slips", n, BAD, x -> x.slips(n + 1));
            refused("note", n, BAD, x -> x.note(n + 1, 0));
            refused("inOrder", n, BAD, x -> x.inOrder(0, 2));
            refused("heard", n, BAD, x -> x.heard(-1));
            refused("line", n, 0, x -> x.line(4));
            refused("along", n, 0, x -> x.along(0, 3));
            refused("board of no sort", n, BAD, x -> x.board(1, 5, 3));
            refused("board above 64", n, BAD, x -> x.board(1, 2, 65));
            refused("clear", n, BAD, x -> x.clear(8));
            refused("items", n, BAD, x -> x.items(8));
            refused("fill of 65", n, BAD, x -> x.fill(1, 0, 65));
            refused("fill of no rows", n, BAD, x -> x.fill(1, steps, 2));
            refused("copy", n, BAD, x -> x.copy(1, 0, 8, 0, 1));
            refused("item", n, 0, x -> x.item(0, 5, 0));
        }
    }

    private static void failuresChangeNothing() {
        Check.sentence("what was done ahead of one stays done");
        refused("board of -1", 6, SIZE, x -> x.board(1, 2, -1));
        refused("items of nothing", 6, NULL, x -> x.items(7));
        refused("fill of nothing", 6, NULL, x -> x.fill(7, 0, 1));
        refused("fill with a line that is not called", 6, STORE, x -> x.fill(4, 0, 3));
        refused("copy to nothing", 6, NULL, x -> x.copy(0, 0, 7, 0, 1));
        refused("copy to another sort", 6, STORE, x -> x.copy(0, 0, 1, 0, 1));
        refused("copy of too many", 6, INDEX, x -> x.copy(0, 0, 0, 1, 4));
        refused("copy of a line that is not called", 6, STORE, x -> x.copy(3, 1, 4, 0, 2));
        refused("item of another sort", 6, CAST, x -> x.item(0, 1, 0));
        refused("item behind the last", 6, INDEX, x -> x.item(0, 0, 4));
        BelfryHouse x = Everything.full(6);
        Check.due("fill up to the end", x.fill(1, 5, 5), INDEX);
        for (int i = 0; i < 4; i++) Check.due("filled ahead of it", x.item(1, 1, i), x.told(x.rowAt(5 + i), 1));
        Check.due("fill up to one not called", x.fill(4, 5, 3), STORE);
        Check.due("the first is filled", x.item(4, 4, 0), x.rowAt(5));
        Check.due("the second, too", x.item(4, 4, 1), x.rowAt(6));
        Check.due("the third is not", x.item(4, 4, 2), NULL);
        x.fill(3, 5, 3);
        x.board(4, 4, 4);
        Check.due("copy up to one not called", x.copy(3, 0, 4, 1, 3), STORE);
        Check.due("not ahead", x.item(4, 4, 0), NULL);
        Check.due("the first is copied", x.item(4, 4, 1), x.rowAt(5));
        Check.due("the second, too", x.item(4, 4, 2), x.rowAt(6));
        Check.due("the third is not", x.item(4, 4, 3), NULL);
    }

    private static void farNumbersAreBad() {
        Check.sentence("BAD (a number is not as told, or there is no such thing)");
        for (int far : FAR) {
            BelfryHouse x = Everything.full(6);
            int[] got = {x.stage(far), x.product(far, 123456), x.product(123456, far), x.inverse(far), x.told(far, 0), x.told(123456, far),
                x.ranked(far), x.feed(far, 0), x.about(far, 0), x.about(0, far), x.change(far, 0, 123456), x.change(0, far, 123456),
                x.change(0, 0, far), x.ring(far), x.call(far, 0), x.call(0, far), x.go(far), x.rowAt(far), x.run(far), x.truth(far, 0),
                x.truth(1, far), x.generator(far), x.coset(far), x.heads(far, 3), x.heads(0, far), x.heads(far, far), x.head(far),
                x.ringer(far, 0, 0), x.ringer(1, far, 0), x.ringer(1, 0, far), x.band(0, far, 1), x.band(0, 0, far), x.band(0, far, far),
                x.ringing(far), x.slips(far), x.note(far, 0), x.inOrder(far, 0), x.inOrder(0, far), x.heard(far),
                x.board(far, 0, 0), x.board(0, far, 0), x.clear(far), x.items(far), x.fill(far, 0, 0), x.fill(0, far, 1), x.fill(0, 0, far),
                x.copy(far, 0, 0, 0, 0), x.copy(0, 0, far, 0, 0)};
            for (int i = 0; i < got.length; i++) Check.due("call " + i + " with " + far, got[i], BAD);
            Check.due("blow of " + far, x.blow(far, 1), -1000000);
            Check.due("blow of bell " + far, x.blow(0, far), -1000000);
            Check.due("board of size " + far, x.board(0, 0, far), far < 0 ? SIZE : BAD);
            long[] none = {x.line(far), x.along(far, 0), x.along(0, far), x.item(far, 0, 0), x.item(0, far, 0)};
            for (int i = 0; i < none.length; i++) Check.due("long call " + i + " with " + far, none[i], 0);
            int[] index = {x.copy(0, far, 0, 0, 1), x.copy(0, 0, 0, far, 1), x.copy(0, 0, 0, 0, far), x.copy(0, far, 0, 0, far),
                x.copy(0, 0, 0, far, far), x.copy(0, far, 0, far, 1), (int) x.item(0, 0, far)};
            for (int i = 0; i < index.length; i++) Check.due("index call " + i + " with " + far, index[i], INDEX);
        }
    }

    private static void noChangesNothing() {
        Check.sentence("NO: there is no RUN.");
        BelfryHouse x = new BelfryHouse();
        Check.method(x, "hold;");
        Check.due("call", x.call(0, 1), NO);
        Check.due("go", x.go(1), NO);
        for (int what = 0; what < 4; what++) Check.due("run " + what, x.run(what), NO);
        Check.due("truth", x.truth(1, 0), NO);
        Check.due("truth", x.truth(9, 1), NO);
        Check.due("there is none still", x.rowAt(0), BAD);
        Check.method(x, "when called cross; hold;");
        x.ring(1);
        x.go(1);
        Check.due("the refused call called nothing", x.rowAt(1), 123456);
        x.stage(5);
        Check.due("none behind stage", x.run(0), NO);
        Check.sentence("NO: n is above 6.");
        for (int n = 7; n <= 8; n++) {
            refused("generator", n, NO, y -> y.generator(y.ranked(0)));
            refused("group", n, NO, BelfryHouse::group);
            refused("coset", n, NO, y -> y.coset(y.ranked(0)));
        }
    }

    private static void fullChangesNothing() {
        Check.sentence("they change nothing");
        BelfryHouse x = new BelfryHouse();
        String text = " ".repeat(594) + "hold;";
        Check.feed(x, text);
        Check.due("no room for two", x.feed(2, ';' | ';' << 8), FULL);
        Check.due("not one of them came", x.method(), 0);
        for (int i = 0; i < 6; i++) x.generator(213456);
        Check.due("the seventh", x.generator(132456), FULL);
        Check.due("it did not come", x.group(), 2);
        Check.due("six", x.free(), 6);
        for (int i = 0; i < 300; i++) x.note(1, 0);
        Check.due("the 301st", x.note(2, Double.doubleToLongBits(-1)), FULL);
        Check.due("it did not come", x.inOrder(0, 1), 1);
        Check.due("300", x.wipe(), 300);
    }

    private static void badIsAheadOfNo() {
        Check.sentence("Of several refusals the first one here: BAD");
        BelfryHouse x = new BelfryHouse();
        Check.due("call, no run", x.call(2000, 0), BAD);
        Check.due("call, no run", x.call(0, 2), BAD);
        Check.due("go, no run", x.go(501), BAD);
        Check.due("go, no run", x.go(0), BAD);
        Check.due("run, no run", x.run(4), BAD);
        Check.due("run, no run", x.run(-1), BAD);
        Check.due("truth, no run", x.truth(0, 0), BAD);
        Check.due("truth, no run", x.truth(1, 2), BAD);
        for (int n = 7; n <= 8; n++) {
            x.stage(n);
            Check.due("generator above six", x.generator(123456), BAD);
            Check.due("coset above six", x.coset(123456), BAD);
        }
    }

    private static void badIsAheadOfFull() {
        Check.sentence("Of several refusals the first one here: BAD");
        BelfryHouse x = new BelfryHouse();
        for (int i = 0; i < 75; i++) x.feed(8, 0);
        Check.due("feed of 9 on a full tape", x.feed(9, 0), BAD);
        Check.due("feed of 0 on a full tape", x.feed(0, 0), BAD);
        for (int i = 0; i < 6; i++) x.generator(213456);
        Check.due("no row among six", x.generator(111111), BAD);
        for (int i = 0; i < 300; i++) x.note(1, 0);
        Check.due("no bell among 300", x.note(7, 0), BAD);
    }

    private static void methodsAskForFullFirst() {
        Check.sentence("FULL (asked first; THE TAPE is empty then, too).");
        BelfryHouse x = new BelfryHouse();
        for (int i = 0; i < 8; i++) Check.due("method", Check.method(x, "hold;"), i);
        Check.due("a good text", Check.method(x, "hold;"), FULL);
        Check.due("a text with a fault", Check.method(x, "?"), FULL);
        Check.due("no text", x.method(), FULL);
        Check.due("THE TAPE is empty", x.feed(1, ';'), 1);
    }

    private static void theTapeIsUsedUp() {
        Check.sentence("(but THE TAPE, which what reads it uses up)");
        BelfryHouse x = new BelfryHouse();
        Check.due("a fault", Check.method(x, "hold"), -14);
        Check.due("THE TAPE is empty", x.feed(1, ';'), 1);
        Check.due("a fault", x.method(), -10);
        Check.due("a method", Check.method(x, "hold;"), 0);
        Check.due("THE TAPE is empty", x.method(), -10);
        Check.due("a refused feed leaves it", x.feed(5, 0x3b646c6f68L), 5);
        Check.due("a refused feed leaves it", x.feed(9, 0), BAD);
        Check.due("a refused feed leaves it", x.method(), 1);
    }

    private static void fiveHundredAndTwelveCalls() {
        Check.sentence("An object is used for at most 512 calls");
        BelfryHouse x = new BelfryHouse();
        for (int i = 0; i < 511; i++) Check.due("call " + i, x.note(i % 6 + 1, i), i < 300 ? i : FULL);
        Check.due("the 512th call", x.inOrder(299, 0), 299);
    }
}
