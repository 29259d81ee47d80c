import java.util.List;

/** Section 1 of the terms and promises 1 to 6: a test for each sentence that names a boundary. */
final class EdgesOfRowsTest {
    private static final int BAD = -1, NO = -2, NULL = -4, NONE = -9;
    private static final int[] HOW_MANY = {1, 1, 2, 6, 24, 120, 720, 5040, 40320};

    public static void main(String[] args) {
        bells();
        eachOnce();
        digits();
        product();
        inverse();
        order();
        rank();
        even();
        newObject();
        stageBounds();
        stageAnswers();
        stageEmptiesAll();
        stageKeepsTheTape();
        stageOfTheSameNumber();
        productRefuses();
        inverseRefuses();
        toldRefuses();
        ranked();
        rankedRefuses();
        Check.finish();
    }

    private static BelfryHouse on(int n) {
        BelfryHouse x = new BelfryHouse();
        x.stage(n);
        return x;
    }

    private static int rounds(int n) {
        return Everything.rounds(n);
    }

    private static void bells() {
        Check.sentence("There are n BELLS (3 .. 8; 6 at first), 1 to n.");
        Check.due("six at first", new BelfryHouse().inverse(123456), 123456);
        Check.due("not five", new BelfryHouse().inverse(12345), BAD);
        Check.due("not seven", new BelfryHouse().inverse(1234567), BAD);
        for (int n = 3; n <= 8; n++) {
            BelfryHouse x = on(n);
            Check.due("no bell 0", x.slips(0), BAD);
            Check.due("bell 1", x.slips(1), 0);
            Check.due("bell n", x.slips(n), 0);
            Check.due("no bell n + 1", x.slips(n + 1), BAD);
        }
    }

    private static void eachOnce() {
        Check.sentence("A ROW has each once, at PLACES 1 to n");
        for (int n = 3; n <= 8; n++) {
            BelfryHouse x = on(n);
            int rounds = rounds(n), ten = 1;
            Check.due("rounds", x.inverse(rounds), rounds);
            for (int place = n; place >= 1; place--) {
                // the bell at the place, 1 to n, is changed for each digit that it is not
                for (int digit = 0; digit <= 9; digit++) {
                    if (digit != place) Check.due("digit " + digit, x.inverse(rounds + (digit - place) * ten), BAD);
                }
                ten *= 10;
            }
            Check.due("one bell too few at the end", x.inverse(rounds / 10), BAD);
            Check.due("one bell too few at the beginning", x.inverse(rounds % (ten / 10)), BAD);
            Check.due("another bell ahead", x.inverse(ten + rounds), BAD);
            Check.due("bell n + 1 ahead", n == 8 ? BAD : x.inverse((n + 1) * ten + rounds), BAD);
            Check.due("bell n + 1 behind", n == 8 ? BAD : x.inverse(rounds(n + 1)), BAD);
            Check.due("below zero", x.inverse(-rounds), BAD);
            Check.due("none", x.inverse(0), BAD);
        }
        // ten digits, the last eight of which would be a row
        Check.due("too long", on(8).inverse(2112345678), BAD);
        // as 32 bits this would be 12345678
        Check.due("below zero", on(8).inverse(12345678 - (1 << 31)), BAD);
    }

    private static void digits() {
        Check.sentence("it is told as a number whose digits are its bells from PLACE 1 on");
        for (int n = 3; n <= 8; n++) {
            BelfryHouse x = on(n);
            Check.method(x, "hold;");
            x.ring(0);
            Check.due("ROUNDS has bell i at PLACE i", x.rowAt(0), rounds(n));
            x.board(0, 0, 1);
            Check.method(x, "jump 2 1;");
            x.ring(1);
            x.go(1);
            x.fill(0, 1, 1);
            Check.due("the bell at PLACE 1", x.item(0, 0, 0), 2);
            int ten = 1;
            for (int i = 2; i < n; i++) ten *= 10;
            Check.due("is the first digit", x.rowAt(1) / ten / 10, 2);
            Check.due("that at PLACE n the last", x.rowAt(1) % 10, n);
        }
    }

    private static void product() {
        Check.sentence("PRODUCT a b has at PLACE i the bell that a has at the PLACE that b has at PLACE i.");
        BelfryHouse x = on(3);
        // by hand: PLACE 1: b has 2, a has 3 at PLACE 2; PLACE 2: b has 1, a has 2; PLACE 3: b has 3, a has 1
        Check.due("231 213", x.product(231, 213), 321);
        Check.due("213 231", x.product(213, 231), 132);
        for (int n = 3; n <= 8; n++) {
            BelfryHouse y = on(n);
            int last = y.ranked(HOW_MANY[n] - 1), second = y.ranked(1);
            Check.due("ROUNDS ahead", y.product(rounds(n), second), second);
            Check.due("ROUNDS behind", y.product(second, rounds(n)), second);
            Check.due("the last with itself", y.product(last, last), rounds(n));
            Check.due("all turned, the first two change", y.product(last, second) % 100, 12);
            Check.due("the bells 1 and 2 change", y.product(second, last) / 10 * 10 + 1, y.product(second, last));
        }
    }

    private static void inverse() {
        Check.sentence("INVERSE of a: with it the PRODUCT (both ways about) is ROUNDS.");
        for (int n = 3; n <= 8; n++) {
            BelfryHouse x = on(n);
            for (int i = 0; i < 60; i++) {
                int a = x.ranked((int) (i * (HOW_MANY[n] - 1L) / 59));
                Check.due("behind " + a, x.product(a, x.inverse(a)), rounds(n));
                Check.due("ahead of " + a, x.product(x.inverse(a), a), rounds(n));
            }
        }
    }

    private static void order() {
        Check.sentence("ORDER: how many a after one another give ROUNDS as their PRODUCT.");
        int[] rows = {231, 2341, 23154, 234561, 2341675, 23154786, 23156784};
        int[] longest = {3, 4, 6, 6, 12, 6, 15};
        for (int n = 3; n <= 8; n++) Check.due("one ROUNDS is enough", on(n).told(rounds(n), 0), 1);
        for (int i = 0; i < rows.length; i++) Check.due("order of " + rows[i], on(Math.min(3 + i, 8)).told(rows[i], 0), longest[i]);
        Check.due("two", on(8).told(87654321, 0), 2);
        Check.due("eight", on(8).told(23456781, 0), 8);
        Check.due("seven", on(7).told(7123456, 0), 7);
        Check.due("ten", on(7).told(2345176, 0), 10);
    }

    private static void rank() {
        Check.sentence("RANK: how many ROWS are less as numbers.");
        for (int n = 3; n <= 8; n++) {
            BelfryHouse x = on(n);
            int last = 0;
            for (int bell = n; bell >= 1; bell--) last = last * 10 + bell;
            Check.due("none is less than ROUNDS", x.told(rounds(n), 1), 0);
            Check.due("all others are less than the last", x.told(last, 1), HOW_MANY[n] - 1);
            Check.due("the second", x.told(rounds(n) + 9, 1), 1);
            Check.due("the last but one", x.told(last - 9, 1), HOW_MANY[n] - 2);
        }
        Check.due("the first with bell 2 ahead", on(8).told(21345678, 1), 5040);
        Check.due("the last with bell 1 ahead", on(8).told(18765432, 1), 5039);
    }

    private static void even() {
        Check.sentence("EVEN: an even number of pairs of bells stand with the greater one ahead.");
        int[] turned = {321, 4321, 54321, 654321, 7654321, 87654321};
        // 3, 6, 10, 15, 21, 28 pairs
        int[] due = {0, 1, 1, 0, 0, 1};
        for (int n = 3; n <= 8; n++) {
            BelfryHouse x = on(n);
            Check.due("no pair in ROUNDS", x.told(rounds(n), 2), 1);
            Check.due("one pair, at the end", x.told(rounds(n) + 9, 2), 0);
            Check.due("one pair, at the beginning", x.told(x.ranked(HOW_MANY[n - 1]), 2), 0);
            Check.due("all pairs", x.told(turned[n - 3], 2), due[n - 3]);
        }
        Check.due("pairs that are not next to each other: 321 has three", on(3).told(321, 2), 0);
        Check.due("two", on(3).told(231, 2), 1);
    }

    private static void isEmpty(BelfryHouse x, int n) {
        for (int method = 0; method < 8; method++) Check.due("no METHOD", x.about(method, 0), BAD);
        Check.due("no METHOD rings", x.ring(0), BAD);
        Check.due("no RUN", x.run(0), NO);
        Check.due("no ROW", x.rowAt(0), BAD);
        Check.due("a group of ROUNDS", x.group(), n > 6 ? NO : 1);
        Check.due("no GENERATOR", x.free(), 0);
        Check.due("no HEAD", x.head(0), BAD);
        Check.due("no RINGING", x.ringing(0), 0);
        Check.due("no RINGING", x.ringing(1), 0);
        Check.due("no RINGING", x.ringing(2), 0);
        Check.due("no RINGING", x.ringing(3), NONE);
        Check.due("no blow", x.blow(0, 1), -1000000);
        for (int bell = 1; bell <= n; bell++) Check.due("no SLIPS", x.slips(bell), 0);
        Check.due("nothing blown", x.listen(), 0);
        Check.due("no BLOW in order", x.inOrder(0, 0), BAD);
        Check.due("no errors", x.line(2), 0);
        Check.due("no BLOW", x.wipe(), 0);
        for (int b = 0; b < 8; b++) Check.due("NOTHING", x.items(b), NULL);
    }

    private static void newObject() {
        Check.sentence("Six bells; no METHODS, no RUN, all else empty.");
        isEmpty(new BelfryHouse(), 6);
        BelfryHouse x = new BelfryHouse();
        Check.due("six bells", x.slips(6), 0);
        Check.due("no seventh", x.slips(7), BAD);
        Check.due("THE TAPE is empty", x.feed(1, ';'), 1);
        Check.due("the first METHOD", Check.method(new BelfryHouse(), "hold;"), 0);
        Check.due("the first BLOW", x.note(1, 0), 0);
    }

    private static void stageBounds() {
        Check.sentence("n is another number (3 .. 8)");
        BelfryHouse x = new BelfryHouse();
        for (int n : new int[] {2, 9, 0, -1, 1, -3, 1 << 3 | 1 << 31, 10, 13}) Check.due("stage " + n, x.stage(n), BAD);
        Check.due("six still", x.inverse(123456), 123456);
        for (int n = 3; n <= 8; n++) {
            Check.holds("stage " + n, x.stage(n) != BAD);
            Check.due("the rows", x.inverse(rounds(n)), rounds(n));
        }
    }

    private static void stageAnswers() {
        Check.sentence("all is as at first but THE TAPE: what it was.");
        BelfryHouse x = new BelfryHouse();
        int before = 6;
        for (int n : new int[] {3, 8, 4, 4, 7, 5, 6, 6, 3}) {
            Check.due("stage " + n, x.stage(n), before);
            before = n;
        }
    }

    private static void stageEmptiesAll() {
        Check.sentence("all is as at first but THE TAPE");
        for (int n = 3; n <= 8; n++) {
            BelfryHouse x = Everything.full(6);
            x.stage(n);
            isEmpty(x, n);
            x = Everything.full(8);
            x.stage(n);
            x.method();
            Check.feed(x, "cros");
            BelfryHouse y = on(n);
            Check.feed(y, "cros");
            alike(x, y, n);
        }
    }

    /** All alike, the ringers too: one METHOD is rung on both. */
    private static void alike(BelfryHouse x, BelfryHouse y, int n) {
        List<Long> got = Everything.asked(x, n), due = Everything.asked(y, n);
        for (int i = 0; i < due.size(); i++) Check.due("behind stage answer " + i, got.get(i), due.get(i));
        for (BelfryHouse z : new BelfryHouse[] {x, y}) {
            z.ring(0);
            z.go(20);
            z.band(5, 0, 20);
        }
        for (int bell = 1; bell <= n; bell++) Check.due("kind 0, SKILL 10", x.blow(17, bell), y.blow(17, bell));
    }

    private static void stageKeepsTheTape() {
        Check.sentence("all is as at first but THE TAPE");
        BelfryHouse x = new BelfryHouse();
        Check.feed(x, "hol");
        x.stage(7);
        x.stage(4);
        Check.due("it goes on", x.feed(2, 'd' | ';' << 8), 5);
        Check.due("it can be read", x.method(), 0);
        for (int i = 0; i < 75; i++) x.feed(8, 0);
        x.stage(5);
        Check.due("it is full still", x.feed(1, 0), -3);
    }

    private static void stageOfTheSameNumber() {
        Check.sentence("all is as at first but THE TAPE");
        BelfryHouse x = Everything.full(6);
        Check.due("the same number", x.stage(6), 6);
        isEmpty(x, 6);
    }

    private static void productRefuses() {
        Check.sentence("BAD: a, b are no ROWS.");
        BelfryHouse x = new BelfryHouse();
        Check.due("a is none", x.product(123450, 123456), BAD);
        Check.due("b is none", x.product(123456, 123450), BAD);
        Check.due("neither is one", x.product(0, 0), BAD);
        Check.due("a has too few", x.product(12345, 123456), BAD);
        Check.due("b has too many", x.product(123456, 1234567), BAD);
    }

    private static void inverseRefuses() {
        Check.sentence("The INVERSE. BAD.");
        BelfryHouse x = new BelfryHouse();
        for (int a : new int[] {0, 123455, 12345, 1234567, -123456}) Check.due("inverse " + a, x.inverse(a), BAD);
    }

    private static void toldRefuses() {
        Check.sentence("Of a ROW: 0 its ORDER, 1 its RANK, 2 1 if it is EVEN, else 0. BAD.");
        BelfryHouse x = new BelfryHouse();
        for (int what = 0; what < 3; what++) Check.due("of none " + what, x.told(123455, what), BAD);
        Check.due("what -1", x.told(123456, -1), BAD);
        Check.due("what 3", x.told(123456, 3), BAD);
        Check.due("0", x.told(213456, 0), 2);
        Check.due("1", x.told(213456, 1), 120);
        Check.due("2", x.told(213456, 2), 0);
    }

    private static void ranked() {
        Check.sentence("The ROW of a RANK.");
        for (int n = 3; n <= 8; n++) {
            BelfryHouse x = on(n);
            for (int i = 0; i < 200; i++) {
                int rank = (int) (i * (HOW_MANY[n] - 1L) / 199);
                Check.due("the rank of its row", x.told(x.ranked(rank), 1), rank);
            }
            Check.due("the first", x.ranked(0), rounds(n));
            Check.due("the second", x.ranked(1), rounds(n) + 9);
        }
    }

    private static void rankedRefuses() {
        Check.sentence("The ROW of a RANK. BAD.");
        for (int n = 3; n <= 8; n++) {
            BelfryHouse x = on(n);
            Check.due("-1", x.ranked(-1), BAD);
            Check.due("as many as there are", x.ranked(HOW_MANY[n]), BAD);
            Check.holds("one less", x.ranked(HOW_MANY[n] - 1) != BAD);
        }
    }
}
