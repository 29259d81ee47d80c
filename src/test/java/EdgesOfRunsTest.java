/** Section 3 of the terms and promises 11 to 16: a test for each sentence that names a boundary. */
final class EdgesOfRunsTest {
    private static final int BAD = -1, NO = -2, NONE = -9;
    /** Away from ROUNDS and home again where a STEP is CALLED; else nothing moves. */
    private static final String CALLS = "when called turn 1 2; hold;";

    public static void main(String[] args) {
        rowZero();
        stepMakesTheNextRow();
        stuck();
        twoThousandSteps();
        ring();
        ringRefuses();
        call();
        callLeavesRows();
        callRefuses();
        go();
        goStops();
        goRefuses();
        rowAt();
        stepsDone();
        latestStepWasStuck();
        firstRounds();
        differentRows();
        runRefuses();
        truthTimes();
        truthSides();
        truthFromRowOne();
        truthNone();
        truthRefuses();
        Check.finish();
    }

    private static BelfryHouse ringing(int n, String text) {
        BelfryHouse x = new BelfryHouse();
        x.stage(n);
        Check.due("method " + text, Check.method(x, text), 0);
        Check.due("ring", x.ring(0), 0);
        return x;
    }

    private static void rowZero() {
        Check.sentence("ROW 0 is ROUNDS");
        for (int n = 3; n <= 8; n++) {
            BelfryHouse x = ringing(n, "turn 1 2;");
            Check.due("ROW 0", x.rowAt(0), Everything.rounds(n));
            x.go(5);
            Check.due("ROW 0", x.rowAt(0), Everything.rounds(n));
            x.ring(0);
            Check.due("ROW 0", x.rowAt(0), Everything.rounds(n));
        }
    }

    private static void stepMakesTheNextRow() {
        Check.sentence("STEP k makes ROW k + 1 of ROW k.");
        BelfryHouse x = ringing(6, "when every 3 0 turn 1 2; when every 3 1 turn 3 4; turn 5 6;");
        x.go(4);
        int[] due = {123456, 213456, 214356, 214365, 124365};
        for (int k = 0; k < due.length; k++) Check.due("ROW " + k, x.rowAt(k), due[k]);
    }

    private static void stuck() {
        Check.sentence("It is STUCK if no rule does.");
        BelfryHouse x = ringing(6, "when called hold;");
        Check.due("no STEP", x.go(1), 0);
        Check.due("STUCK", x.run(1), 1);
        Check.due("no STEP done", x.run(0), 0);
        Check.due("no ROW made", x.rowAt(1), BAD);
        x.call(0, 1);
        Check.due("a rule does now", x.go(500), 1);
        Check.due("but not at the next", x.run(1), 1);
        x = ringing(6, "when not round hold; when round and not round cross;");
        Check.due("neither of two rules", x.go(1), 0);
        x = ringing(6, "when not round hold; cross;");
        Check.due("the last one", x.go(1), 1);
    }

    private static void twoThousandSteps() {
        Check.sentence("2000 STEPS at most.");
        BelfryHouse x = ringing(6, "cross;");
        for (int i = 0; i < 3; i++) Check.due("500", x.go(500), 500);
        Check.due("499", x.go(499), 499);
        Check.due("ROW 1999", x.rowAt(1999), 214365);
        Check.due("not yet ROW 2000", x.rowAt(2000), BAD);
        Check.due("one more", x.go(2), 1);
        Check.due("ROW 2000", x.rowAt(2000), 123456);
        Check.due("no more", x.go(1), 0);
        Check.due("no ROW 2001", x.rowAt(2001), BAD);
        Check.due("2000", x.run(0), 2000);
        Check.due("its heads", x.heads(1941, 2000), 2);
        Check.due("its ringing", x.band(0, 1601, 400), 400);
        x.ring(0);
        Check.due("anew", x.go(500), 500);
    }

    private static void ring() {
        Check.sentence("THE RUN of a METHOD begins, no STEP is CALLED: 0.");
        BelfryHouse x = ringing(6, CALLS);
        for (int step : new int[] {0, 1, 2, 7, 1999}) x.call(step, 1);
        Check.due("go", x.go(10), 10);
        Check.due("CALLED", x.rowAt(1), 213456);
        Check.due("ring", x.ring(0), 0);
        Check.due("no STEP is done", x.run(0), 0);
        Check.due("no ROW but one", x.rowAt(1), BAD);
        Check.due("STUCK no more", x.run(1), 0);
        Check.due("no ROUNDS behind ROW 0", x.run(2), NONE);
        Check.due("no ROWS to count", x.run(3), 0);
        Check.due("nothing twice", x.truth(1, 0), NONE);
        for (int i = 0; i < 4; i++) x.go(500);
        for (int k : new int[] {1, 2, 3, 8, 2000}) Check.due("none is CALLED", x.rowAt(k), 123456);
        Check.method(x, "when called hold;");
        x.ring(1);
        x.go(1);
        Check.due("STUCK", x.run(1), 1);
        x.ring(1);
        Check.due("not yet", x.run(1), 0);
    }

    private static void ringRefuses() {
        Check.sentence("THE RUN of a METHOD begins, no STEP is CALLED: 0. BAD.");
        BelfryHouse x = new BelfryHouse();
        Check.due("no METHOD", x.ring(0), BAD);
        Check.method(x, "cross;");
        Check.due("METHOD 1", x.ring(1), BAD);
        Check.due("METHOD -1", x.ring(-1), BAD);
        Check.due("no RUN yet", x.run(0), NO);
        Check.due("METHOD 0", x.ring(0), 0);
    }

    private static void call() {
        Check.sentence("A STEP (0 .. 1999) is CALLED (on = 1), or not (0)");
        BelfryHouse x = ringing(6, CALLS);
        Check.due("the first", x.call(0, 1), 0);
        Check.due("the last", x.call(1999, 1), 0);
        Check.due("another", x.call(500, 1), 0);
        Check.due("and not", x.call(500, 0), 0);
        Check.due("one that was not", x.call(3, 0), 0);
        for (int i = 0; i < 4; i++) x.go(500);
        Check.due("by STEP 0", x.rowAt(1), 213456);
        Check.due("by STEP 500", x.rowAt(501), 213456);
        Check.due("ahead of STEP 1999", x.rowAt(1999), 213456);
        Check.due("by STEP 1999", x.rowAt(2000), 123456);
    }

    private static void callLeavesRows() {
        Check.sentence("ROWS that there are stay: 0.");
        BelfryHouse x = ringing(6, CALLS);
        x.call(1, 1);
        x.go(3);
        Check.due("call of a STEP that is done", x.call(0, 1), 0);
        Check.due("call of a STEP that is done", x.call(1, 0), 0);
        int[] due = {123456, 123456, 213456, 213456};
        for (int k = 0; k < due.length; k++) Check.due("ROW " + k, x.rowAt(k), due[k]);
        x.call(3, 1);
        x.go(1);
        Check.due("ROW 4", x.rowAt(4), 123456);
    }

    private static void callRefuses() {
        Check.sentence("ROWS that there are stay: 0. BAD. NO: there is no RUN.");
        BelfryHouse x = new BelfryHouse();
        Check.due("no RUN", x.call(0, 1), NO);
        Check.due("no RUN", x.call(1999, 0), NO);
        x = ringing(6, CALLS);
        Check.due("STEP -1", x.call(-1, 1), BAD);
        Check.due("STEP 2000", x.call(2000, 1), BAD);
        Check.due("on -1", x.call(0, -1), BAD);
        Check.due("on 2", x.call(0, 2), BAD);
    }

    private static void go() {
        Check.sentence("So many STEPS (1 .. 500)");
        BelfryHouse x = ringing(6, "jump 1 6;");
        Check.due("one", x.go(1), 1);
        Check.due("five hundred", x.go(500), 500);
        Check.due("two", x.go(2), 2);
        Check.due("so many", x.run(0), 503);
        Check.due("none behind them", x.rowAt(504), BAD);
    }

    private static void goStops() {
        Check.sentence("or up to the 2000th, or until it is STUCK: how many are done by this call.");
        BelfryHouse x = ringing(6, "when not every 7 6 hold;");
        Check.due("up to STEP 6", x.go(100), 6);
        Check.due("it does not go on", x.go(100), 0);
        x.ring(0);
        Check.due("just ahead of it", x.go(6), 6);
        Check.due("no STEP was STUCK yet", x.run(1), 0);
        Check.due("now it is", x.go(1), 0);
        Check.due("STUCK", x.run(1), 1);
        x = ringing(6, "hold;");
        for (int i = 0; i < 3; i++) x.go(500);
        x.go(1);
        Check.due("up to the 2000th", x.go(500), 499);
        Check.due("none behind it", x.go(500), 0);
    }

    private static void goRefuses() {
        Check.sentence("how many are done by this call. BAD; NO: there is no RUN.");
        BelfryHouse x = new BelfryHouse();
        Check.due("no RUN", x.go(1), NO);
        Check.due("no RUN", x.go(500), NO);
        x = ringing(6, "hold;");
        Check.due("0", x.go(0), BAD);
        Check.due("501", x.go(501), BAD);
        Check.due("-1", x.go(-1), BAD);
        Check.due("nothing is done", x.run(0), 0);
    }

    private static void rowAt() {
        Check.sentence("ROW k. BAD: there is none such.");
        BelfryHouse x = new BelfryHouse();
        Check.due("no RUN", x.rowAt(0), BAD);
        x = ringing(6, "cross;");
        Check.due("ROW 0", x.rowAt(0), 123456);
        Check.due("ROW 1", x.rowAt(1), BAD);
        x.go(3);
        Check.due("ROW -1", x.rowAt(-1), BAD);
        Check.due("ROW 3", x.rowAt(3), 214365);
        Check.due("ROW 4", x.rowAt(4), BAD);
        x.ring(0);
        Check.due("ROW 3 is no more", x.rowAt(3), BAD);
    }

    private static void stepsDone() {
        Check.sentence("0 how many STEPS are done");
        BelfryHouse x = ringing(6, "when not every 8 7 hold;");
        Check.due("none", x.run(0), 0);
        x.go(3);
        Check.due("three", x.run(0), 3);
        x.go(10);
        Check.due("seven", x.run(0), 7);
        x.go(10);
        Check.due("still seven", x.run(0), 7);
    }

    private static void latestStepWasStuck() {
        Check.sentence("1 1 if the latest STEP that go() asked for was STUCK, else 0");
        BelfryHouse x = ringing(6, "when called hold;");
        Check.due("none was asked for", x.run(1), 0);
        x.go(1);
        Check.due("STUCK", x.run(1), 1);
        x.go(501);
        Check.due("a refused go asks for none", x.run(1), 1);
        x.call(0, 1);
        Check.due("call asks for none", x.run(1), 1);
        x.go(1);
        Check.due("it went on", x.run(1), 0);
        x.go(1);
        Check.due("STUCK again", x.run(1), 1);
        x = ringing(6, "hold;");
        for (int i = 0; i < 5; i++) x.go(500);
        Check.due("at the end it is not STUCK", x.run(1), 0);
    }

    private static void firstRounds() {
        Check.sentence("2 the first ROW behind ROW 0 that is ROUNDS (NONE)");
        BelfryHouse x = ringing(6, CALLS);
        Check.due("ROW 0 is not behind itself", x.run(2), NONE);
        x.call(0, 1);
        x.call(1999, 1);
        for (int i = 0; i < 3; i++) x.go(500);
        x.go(499);
        Check.due("none yet", x.run(2), NONE);
        x.go(1);
        Check.due("the last ROW", x.run(2), 2000);
        x = ringing(6, CALLS);
        x.go(1);
        Check.due("ROW 1", x.run(2), 1);
        x.go(5);
        Check.due("the first", x.run(2), 1);
        x = ringing(8, "jump 1 8;");
        x.go(7);
        Check.due("none", x.run(2), NONE);
        x.go(20);
        Check.due("ROW 8", x.run(2), 8);
    }

    private static void differentRows() {
        Check.sentence("3 how many different ROWS there are (of ROW 1 and on).");
        BelfryHouse x = ringing(6, "cross;");
        Check.due("none", x.run(3), 0);
        x.go(1);
        Check.due("ROW 1", x.run(3), 1);
        x.go(1);
        Check.due("ROUNDS comes again, but counts as new", x.run(3), 2);
        x.go(50);
        Check.due("two", x.run(3), 2);
        x = ringing(6, "hold;");
        x.go(10);
        Check.due("ROUNDS alone", x.run(3), 1);
        x = ringing(6, "when not every 3 2 cross; hold;");
        x.go(6);
        Check.due("two", x.run(3), 2);
        x = ringing(8, "when every 7 0 (jump 1 8, jump 3 5); when every 5 1 turn 2 5; when every 3 2 cross; "
            + "when every 11 3 jump 2 4; (places 18, jump 2 7);");
        java.util.Set<Integer> rows = new java.util.HashSet<>();
        for (int i = 0; i < 4; i++) x.go(100);
        for (int k = 1; k <= 400; k++) rows.add(x.rowAt(k));
        Check.due("many", x.run(3), rows.size());
        Check.holds("they are many", rows.size() > 300);
    }

    private static void runRefuses() {
        Check.sentence("3 how many different ROWS there are (of ROW 1 and on). BAD. NO: there is no RUN.");
        BelfryHouse x = new BelfryHouse();
        for (int what = 0; what < 4; what++) Check.due("no RUN", x.run(what), NO);
        x = ringing(6, "hold;");
        Check.due("-1", x.run(-1), BAD);
        Check.due("4", x.run(4), BAD);
    }

    private static void truthTimes() {
        Check.sentence("the first that came so many times (1 .. 9) ahead of it already (side = 0)");
        BelfryHouse x = ringing(6, "hold;");
        x.go(12);
        for (int times = 1; times <= 9; times++) Check.due("so many " + times, x.truth(times, 0), times + 1);
        x = ringing(6, "cross;");
        x.go(40);
        // ROW 1 and ROW 2 come by turns
        for (int times = 1; times <= 9; times++) Check.due("by turns " + times, x.truth(times, 0), 2 * times + 1);
        x = ringing(6, "hold;");
        x.go(10);
        Check.due("nine times at the last ROW", x.truth(9, 0), 10);
        x.ring(0);
        x.go(9);
        Check.due("eight times at the last ROW", x.truth(8, 0), 9);
        Check.due("not yet nine times", x.truth(9, 0), NONE);
    }

    private static void truthSides() {
        Check.sentence("or the latest ROW ahead of that which is the same (1)");
        BelfryHouse x = ringing(6, CALLS);
        // ROWS 1, 2 are ROUNDS, 3 to 5 not, 6 and on are again
        x.call(2, 1);
        x.call(5, 1);
        x.go(20);
        int[] first = {2, 5, 7, 8, 9, 10, 11, 12, 13};
        // ROW 6 came twice ahead too, but ROW 5 is the first that did
        int[] same = {1, 4, 6, 7, 8, 9, 10, 11, 12};
        for (int times = 1; times <= 9; times++) {
            Check.due("first " + times, x.truth(times, 0), first[times - 1]);
            Check.due("same " + times, x.truth(times, 1), same[times - 1]);
        }
        x = ringing(8, "jump 1 8;");
        x.go(30);
        Check.due("ROW 17 is as ROW 9 and ROW 1", x.truth(2, 0), 17);
        Check.due("ROW 9 is later", x.truth(2, 1), 9);
    }

    private static void truthFromRowOne() {
        Check.sentence("Of ROW 1 and on");
        BelfryHouse x = ringing(6, "hold;");
        x.go(1);
        Check.due("ROW 0 came ahead of ROW 1, but does not count", x.truth(1, 0), NONE);
        Check.due("ROW 0 came ahead of ROW 1, but does not count", x.truth(1, 1), NONE);
        x.go(1);
        Check.due("ROW 1 came ahead of ROW 2", x.truth(1, 0), 2);
        Check.due("ROW 1 came ahead of ROW 2", x.truth(1, 1), 1);
        Check.due("once, not twice", x.truth(2, 0), NONE);
    }

    private static void truthNone() {
        Check.sentence("NONE: there is none.");
        BelfryHouse x = ringing(6, "jump 1 6;");
        Check.due("no ROW 1", x.truth(1, 0), NONE);
        Check.due("no ROW 1", x.truth(1, 1), NONE);
        x.go(6);
        for (int times = 1; times <= 9; times++) {
            Check.due("all differ", x.truth(times, 0), NONE);
            Check.due("all differ", x.truth(times, 1), NONE);
        }
    }

    private static void truthRefuses() {
        Check.sentence("NONE: there is none. BAD. NO.");
        BelfryHouse x = new BelfryHouse();
        Check.due("no RUN", x.truth(1, 0), NO);
        Check.due("no RUN", x.truth(9, 1), NO);
        x = ringing(6, "hold;");
        x.go(100);
        Check.due("0 times", x.truth(0, 0), BAD);
        Check.due("10 times", x.truth(10, 0), BAD);
        Check.due("-1 times", x.truth(-1, 0), BAD);
        Check.due("side -1", x.truth(1, -1), BAD);
        Check.due("side 2", x.truth(1, 2), BAD);
    }
}
