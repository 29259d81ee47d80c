/** Promises 11 to 16: ring, call, go, rowAt, run, truth. */
final class RunTest {
    private static final int BAD = -1, NO = -2, NONE = -9;

    public static void main(String[] args) {
        ring();
        call();
        go();
        toTheEnd();
        rowAt();
        conds();
        firstRuleThatHolds();
        run();
        truth();
        refusals();
        againAndAgain();
        longRuns();
        Check.finish();
    }

    private static void ring() {
        BelfryHouse x = new BelfryHouse();
        Check.due("no method", x.ring(0), BAD);
        Check.method(x, "when called hold; cross;");
        Check.method(x, "places 16;");
        Check.due("no third", x.ring(2), BAD);
        Check.due("none below", x.ring(-1), BAD);
        Check.due("no run by that", x.run(0), NO);
        Check.due("ring", x.ring(0), 0);
        Check.due("ROW 0", x.rowAt(0), 123456);
        Check.due("no other row", x.rowAt(1), BAD);
        x.call(0, 1);
        x.go(3);
        Check.due("called", x.rowAt(1), 123456);
        Check.due("a refused ring", x.ring(2), BAD);
        Check.due("leaves the run", x.run(0), 3);
        Check.due("ring again", x.ring(0), 0);
        Check.due("no steps", x.run(0), 0);
        Check.due("no rows but the first", x.rowAt(1), BAD);
        x.go(1);
        Check.due("no step is called any more", x.rowAt(1), 214365);
        x.ring(1);
        x.go(1);
        Check.due("the other method", x.rowAt(1), 132546);
    }

    private static void call() {
        BelfryHouse x = new BelfryHouse();
        Check.method(x, "when called turn 1 6; when called hold; cross;");
        Check.due("BAD is ahead of NO", x.call(-1, 0), BAD);
        Check.due("no run", x.call(0, 0), NO);
        x.ring(0);
        Check.due("call", x.call(1, 1), 0);
        Check.due("call the last", x.call(1999, 1), 0);
        Check.due("call behind it", x.call(2000, 1), BAD);
        Check.due("call below", x.call(-1, 1), BAD);
        Check.due("on 2", x.call(3, 2), BAD);
        Check.due("on -1", x.call(3, -1), BAD);
        Check.due("go", x.go(2), 2);
        Check.due("not called", x.rowAt(1), 214365);
        Check.due("called", x.rowAt(2), 563412);
        Check.due("call later", x.call(0, 1), 0);
        Check.due("and not", x.call(1, 0), 0);
        Check.due("the rows stay", x.rowAt(1), 214365);
        Check.due("the rows stay", x.rowAt(2), 563412);
        x.call(2, 1);
        x.call(2, 1);
        x.call(2, 0);
        x.go(1);
        Check.due("called and not again", x.rowAt(3), 654321);
    }

    private static void go() {
        BelfryHouse x = new BelfryHouse();
        Check.method(x, "when not every 5 3 cross;");
        Check.due("BAD is ahead of NO", x.go(0), BAD);
        Check.due("no run", x.go(1), NO);
        x.ring(0);
        Check.due("go 0", x.go(0), BAD);
        Check.due("go 501", x.go(501), BAD);
        Check.due("go below", x.go(Integer.MIN_VALUE), BAD);
        Check.due("go far above", x.go(Integer.MAX_VALUE), BAD);
        Check.due("nothing is done", x.run(0), 0);
        Check.due("go 2", x.go(2), 2);
        Check.due("not stuck", x.run(1), 0);
        Check.due("go 500", x.go(500), 1);
        Check.due("stuck", x.run(1), 1);
        Check.due("so many", x.run(0), 3);
        Check.due("stuck still", x.go(1), 0);
        Check.due("stuck", x.run(1), 1);
        Check.due("BAD asks for no step", x.go(0), BAD);
        Check.due("stuck", x.run(1), 1);
        x.ring(0);
        Check.due("a new run is not stuck", x.run(1), 0);
        Check.due("go up to it", x.go(3), 3);
        Check.due("it was not asked for yet", x.run(1), 0);
    }

    private static void toTheEnd() {
        BelfryHouse x = Check.rung(8, "jump 1 8;", 1900);
        Check.due("the last hundred", x.go(500), 100);
        Check.due("no more", x.go(1), 0);
        Check.due("it is not stuck", x.run(1), 0);
        Check.due("2000", x.run(0), 2000);
        Check.due("the last row", x.rowAt(2000), 12345678);
        Check.due("none behind it", x.rowAt(2001), BAD);
        Check.due("eight rows", x.run(3), 8);
        Check.due("row 17 came twice ahead", x.truth(2, 0), 17);
        Check.due("the ninth time", x.truth(9, 0), 73);
        Check.due("the latest", x.truth(9, 1), 65);
    }

    private static void rowAt() {
        BelfryHouse x = new BelfryHouse();
        Check.due("no run", x.rowAt(0), BAD);
        x = Check.rung(5, "cross; ", 3);
        Check.due("row 0", x.rowAt(0), 12345);
        Check.due("row 1", x.rowAt(1), 21435);
        Check.due("row 3", x.rowAt(3), 21435);
        Check.due("row 4", x.rowAt(4), BAD);
        Check.due("row -1", x.rowAt(-1), BAD);
        Check.due("far", x.rowAt(Integer.MAX_VALUE), BAD);
        Check.due("far below", x.rowAt(Integer.MIN_VALUE), BAD);
    }

    /** Whether the cond holds at each of the first rows of a round of six, a digit a row: if it does, the run is stuck. */
    private static void holds(String cond, String want) {
        BelfryHouse x = new BelfryHouse();
        Check.method(x, "when called jump 1 6; when not " + cond + " jump 1 6;");
        StringBuilder got = new StringBuilder();
        for (int k = 0; k < want.length(); k++) {
            x.ring(0);
            for (int step = 0; step < k; step++) x.call(step, 1);
            if (k > 0) x.go(k);
            got.append(x.go(1) == 0 ? 1 : 0);
        }
        Check.holds(cond + " held at " + got + ", due is " + want, got.toString().equals(want));
    }

    private static void conds() {
        holds("1 at 1", "1000001");
        holds("1 at 6", "0100000");
        holds("3 at 1", "0010000");
        holds("2 at 6", "0010000");
        holds("1 before 2", "1011111");
        holds("2 before 1", "0100000");
        holds("6 before 1", "0111110");
        holds("even", "1010101");
        holds("round", "1000001");
        holds("every 1 0", "1111111");
        holds("every 2 0", "1010101");
        holds("every 2 1", "0101010");
        holds("every 3 2", "0010010");
        holds("every 99 0", "1000000");
        holds("every 99 5", "0000010");
    }

    private static void firstRuleThatHolds() {
        BelfryHouse x = Check.rung(6, "when round and not every 2 1 cross; when round hold; when even and not round places 16; turn 1 2;", 2);
        Check.due("the first", x.rowAt(1), 214365);
        Check.due("the last, for three pairs are odd", x.rowAt(2), 124365);
        x.go(2);
        Check.due("the third", x.rowAt(3), 142635);
        Check.due("the third again, for two pairs leave it even", x.rowAt(4), 124365);
        BelfryHouse y = Check.rung(6, "when not called and not round hold; cross;", 3);
        Check.due("the second", y.rowAt(1), 214365);
        Check.due("the first", y.rowAt(3), 214365);
    }

    private static void run() {
        BelfryHouse x = new BelfryHouse();
        Check.due("BAD is ahead of NO", x.run(4), BAD);
        Check.due("no run", x.run(3), NO);
        x = Check.rung(6, "jump 1 6;", 5);
        Check.due("steps", x.run(0), 5);
        Check.due("no rounds yet", x.run(2), NONE);
        Check.due("different rows, without ROW 0", x.run(3), 5);
        x.go(1);
        Check.due("rounds", x.run(2), 6);
        Check.due("six", x.run(3), 6);
        x.go(100);
        Check.due("the first rounds", x.run(2), 6);
        Check.due("still six", x.run(3), 6);
        Check.due("run -1", x.run(-1), BAD);
        x.ring(0);
        Check.due("none yet", x.run(2), NONE);
        Check.due("no rows", x.run(3), 0);
        x = Check.rung(6, "hold;", 1);
        Check.due("at once", x.run(2), 1);
        Check.due("one", x.run(3), 1);
    }

    private static void truth() {
        BelfryHouse x = new BelfryHouse();
        Check.due("BAD is ahead of NO", x.truth(0, 0), BAD);
        Check.due("no run", x.truth(1, 0), NO);
        x = Check.rung(6, "jump 1 6;", 6);
        Check.due("ROW 0 does not count", x.truth(1, 0), NONE);
        Check.due("nor does it on the other side", x.truth(1, 1), NONE);
        x.go(1);
        Check.due("row 7 is row 1", x.truth(1, 0), 7);
        Check.due("row 1", x.truth(1, 1), 1);
        Check.due("none came twice", x.truth(2, 0), NONE);
        for (int[] bad : new int[][] {{0, 0}, {10, 0}, {-1, 0}, {1, -1}, {1, 2}, {Integer.MAX_VALUE, 1}, {Integer.MIN_VALUE, 0}}) {
            Check.due("truth " + bad[0] + " " + bad[1], x.truth(bad[0], bad[1]), BAD);
        }
        x = Check.rung(6, "when every 3 2 cross; hold;", 40);
        // rounds at rows 1, 2, 6, 7, 8, 12 ..; the other row at 3, 4, 5, 9 ..
        Check.due("row 2", x.truth(1, 0), 2);
        Check.due("row 1", x.truth(1, 1), 1);
        Check.due("row 5", x.truth(2, 0), 5);
        Check.due("row 4", x.truth(2, 1), 4);
        Check.due("row 7", x.truth(3, 0), 7);
        Check.due("row 6", x.truth(3, 1), 6);
        Check.due("row 8", x.truth(4, 0), 8);
        Check.due("row 7", x.truth(4, 1), 7);
        x.ring(0);
        Check.due("a new run", x.truth(1, 0), NONE);
        Check.due("a new run", x.truth(1, 1), NONE);
    }

    private static void refusals() {
        BelfryHouse x = Check.rung(6, "cross;", 4);
        x.ring(7);
        x.call(-1, 1);
        x.go(-1);
        x.run(9);
        x.truth(0, 0);
        Check.due("nothing has changed", x.run(0), 4);
        Check.due("nothing has changed", x.run(3), 2);
        Check.due("nothing has changed", x.rowAt(4), 123456);
    }

    private static void againAndAgain() {
        BelfryHouse x = Check.rung(6, "jump 1 6;", 20);
        for (int round = 0; round < 3; round++) {
            x.ring(0);
            Check.due("go", x.go(6), 6);
            Check.due("rows of the run before do not count", x.run(3), 6);
            Check.due("none came twice in this one", x.truth(1, 0), NONE);
        }
    }

    /** Many different rows, and many that come again, counted the slow way. */
    private static void longRuns() {
        String[] methods = {"when every 2 0 cross; (places 18, jump 2 7);", "when every 7 0 (jump 1 8, jump 3 5); when every 3 1 turn 2 5; cross;",
            "when every 5 0 turn 1 8; when every 4 2 jump 6 2; when even cross; places 1278;", "when 1 before 2 jump 1 8; when 3 at 4 turn 1 4; jump 2 5;"};
        for (String method : methods) {
            BelfryHouse x = Check.rung(8, method, 2000);
            java.util.Map<Integer, Integer> latest = new java.util.HashMap<>();
            java.util.Map<Integer, Integer> came = new java.util.HashMap<>();
            int[] first = new int[10], same = new int[10];
            for (int k = 1; k <= 2000; k++) {
                int row = x.rowAt(k), times = came.getOrDefault(row, 0);
                if (times >= 1 && times <= 9 && first[times] == 0) {
                    first[times] = k;
                    same[times] = latest.get(row);
                }
                came.put(row, times + 1);
                latest.put(row, k);
            }
            Check.due("different rows of " + method, x.run(3), came.size());
            for (int times = 1; times <= 9; times++) {
                Check.due("came " + times + " times", x.truth(times, 0), first[times] == 0 ? NONE : first[times]);
                Check.due("the one ahead", x.truth(times, 1), first[times] == 0 ? NONE : same[times]);
            }
        }
    }
}
