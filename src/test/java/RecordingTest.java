/** Promises 28 to 34: note, wipe, listen, inOrder, heard, line, along. */
final class RecordingTest {
    private static final int BAD = -1, FULL = -3;
    private static final long NAN = 0x7ff8000000000000L;

    public static void main(String[] args) {
        note();
        wipe();
        inOrder();
        notKnown();
        heard();
        listen();
        listenFull();
        lineOfFew();
        straightLine();
        line();
        endless();
        refusals();
        doublesOfAllSizes();
        wholeNumbers();
        Check.finish();
    }

    private static long bits(double time) {
        return Double.doubleToLongBits(time);
    }

    private static BelfryHouse noted(double... times) {
        BelfryHouse x = new BelfryHouse();
        x.stage(3);
        for (int i = 0; i < times.length; i++) Check.due("note", x.note(i % 3 + 1, bits(times[i])), i);
        return x;
    }

    private static void note() {
        BelfryHouse x = new BelfryHouse();
        Check.due("no bell 0", x.note(0, 0), BAD);
        Check.due("no bell 7", x.note(7, 0), BAD);
        Check.due("no bell", x.note(Integer.MAX_VALUE, 0), BAD);
        for (int i = 0; i < 300; i++) Check.due("note", x.note(i % 6 + 1, i % 3 == 0 ? NAN : bits(-i)), i);
        Check.due("the 301st", x.note(1, 0), FULL);
        Check.due("BAD is ahead of FULL", x.note(0, 0), BAD);
        Check.due("it did not come", x.inOrder(200, 0), BAD);
        Check.due("the least first", x.inOrder(0, 0), 299);
        Check.due("those not known are none of them", x.inOrder(199, 0), 1);
    }

    private static void wipe() {
        BelfryHouse x = noted(3, 2, Double.NaN, 1);
        Check.due("four", x.wipe(), 4);
        Check.due("none", x.wipe(), 0);
        Check.due("none in order", x.inOrder(0, 0), BAD);
        Check.due("none heard", x.heard(0), BAD);
        Check.due("none along", x.along(0, 0), 0);
        Check.due("a line of none", x.line(0), NAN);
        Check.due("a line of none has no errors", x.line(2), 0);
        Check.due("numbers from 0 on", x.note(2, bits(7)), 0);
        Check.due("it is the first", x.inOrder(0, 1), 2);
    }

    private static void order(BelfryHouse x, int... numbers) {
        for (int i = 0; i < numbers.length; i++) {
            Check.due("number of the " + i + "th", x.inOrder(i, 0), numbers[i]);
            Check.due("bell of the " + i + "th", x.inOrder(i, 1), numbers[i] % 3 + 1);
        }
        Check.due("no more", x.inOrder(numbers.length, 0), BAD);
    }

    private static void inOrder() {
        order(noted(1, 2, 3), 0, 1, 2);
        order(noted(3, 2, 1), 2, 1, 0);
        order(noted(1, 1, 1, 0, 0), 3, 4, 0, 1, 2);
        order(noted(0.0, -0.0, 0.0, -0.0), 0, 1, 2, 3);
        order(noted(Double.MIN_VALUE, 0.0, -0.0, -Double.MIN_VALUE), 3, 1, 2, 0);
        order(noted(Double.POSITIVE_INFINITY, Double.MAX_VALUE, -1, -2, Double.NEGATIVE_INFINITY, -Double.MAX_VALUE), 4, 5, 3, 2, 1, 0);
        order(noted(-1.5, -1.25, -1.75, 1e300, -1e300), 4, 2, 0, 1, 3);
        BelfryHouse x = noted(1);
        Check.due("inOrder -1", x.inOrder(-1, 0), BAD);
        Check.due("inOrder far", x.inOrder(Integer.MAX_VALUE, 0), BAD);
        Check.due("inOrder far below", x.inOrder(Integer.MIN_VALUE, 0), BAD);
        Check.due("what -1", x.inOrder(0, -1), BAD);
        Check.due("what 2", x.inOrder(0, 2), BAD);
        Check.due("its own bits", noted(-0.0).along(0, 0), Long.MIN_VALUE);
    }

    private static void notKnown() {
        BelfryHouse x = noted(5, Double.NaN, 3);
        order(x, 2, 0);
        long[] nans = {0x7ff0000000000001L, 0xfff0000000000001L, -1L, Long.MAX_VALUE, NAN, 0xfff8000000000000L};
        for (int i = 0; i < nans.length; i++) Check.due("any NaN has a number", x.note(1, nans[i]), 3 + i);
        order(x, 2, 0);
        Check.due("they are blows", x.wipe(), 9);
    }

    private static void heard() {
        BelfryHouse x = noted(1, 2, 3, 6, 5, 4, 7, 8);
        Check.due("row 0", x.heard(0), 123);
        Check.due("row 1", x.heard(1), 321);
        Check.due("not so many", x.heard(2), BAD);
        Check.due("heard -1", x.heard(-1), BAD);
        Check.due("heard far", x.heard(Integer.MAX_VALUE), BAD);
        Check.due("heard far, by n again small", x.heard(1431655766), BAD);
        x.note(2, bits(9));
        Check.due("a bell is twice in it", x.heard(2), 0);
        x.note(1, bits(0));
        Check.due("all move on", x.heard(0), 0);
        Check.due("all move on", x.heard(1), 0);
        BelfryHouse y = new BelfryHouse();
        y.stage(8);
        for (int bell = 1; bell <= 8; bell++) y.note(bell, bits(-bell));
        Check.due("eight bells", y.heard(0), 87654321);
    }

    private static void listen() {
        BelfryHouse x = new BelfryHouse();
        Check.due("no ringing", x.listen(), 0);
        x = Check.rung(6, "cross;", 9);
        x.note(6, bits(-7));
        x.band(3, 1, 2);
        Check.due("listen", x.listen(), 12);
        Check.due("all are there", x.inOrder(12, 0) >= 0 ? 1 : 0, 1);
        Check.due("no more", x.inOrder(13, 0), BAD);
        String[] rows = {"214365", "123456"};
        for (int i = 0; i < 13; i++) {
            int number = x.inOrder(i, 0);
            if (number == 0) continue;
            int k = (number - 1) / 6, bell = rows[k].charAt((number - 1) % 6) - '0';
            Check.due("bell by rows and places", x.inOrder(i, 1), bell);
            Check.due("time in seconds", x.along(i, 0), bits(x.blow(k, bell) / 1000.0));
        }
        Check.due("again", x.listen(), 12);
        Check.due("they are twice there", x.wipe(), 25);
        for (int bell = 1; bell <= 6; bell++) x.ringer(bell, 2, 0);
        for (int seed = 0; seed < 60; seed++) {
            x.band(seed, 0, 9);
            int all = 0;
            for (int k = 0; k < 9; k++) {
                for (int bell = 1; bell <= 6; bell++) all += x.blow(k, bell) == -1000000 ? 0 : 1;
            }
            Check.due("all that is blown", x.listen(), all);
            Check.due("not more", x.wipe(), all);
        }
    }

    private static void listenFull() {
        BelfryHouse x = Check.rung(6, "cross;", 100);
        for (int bell = 1; bell <= 6; bell++) x.ringer(bell, 0, 20);
        x.band(0, 0, 51);
        Check.due("too many", x.listen(), FULL);
        Check.due("none is noted", x.wipe(), 0);
        x.band(0, 0, 50);
        x.note(1, 0);
        Check.due("one too many", x.listen(), FULL);
        Check.due("none is noted", x.wipe(), 1);
        Check.due("just so many", x.listen(), 300);
        Check.due("full", x.listen(), FULL);
        Check.due("the last row", x.heard(49), 214365);
        x.stage(6);
        Check.method(x, "cross;");
        for (int i = 0; i < 300; i++) x.note(1, 0);
        Check.due("nothing finds room", x.listen(), 0);
    }

    /** GAP, LEAD, the greatest error, the root. */
    private static void line(BelfryHouse x, double gap, double lead, double greatest, double root) {
        Check.due("GAP", x.line(0), bits(gap));
        Check.due("LEAD", x.line(1), bits(lead));
        Check.due("greatest", x.line(2), bits(greatest));
        Check.due("root", x.line(3), bits(root));
    }

    private static void lineOfFew() {
        line(noted(), Double.NaN, Double.NaN, 0.0, Double.NaN);
        line(noted(Double.NaN), Double.NaN, Double.NaN, 0.0, Double.NaN);
        line(noted(5), Double.NaN, Double.NaN, Double.NaN, Double.NaN);
        line(noted(5, 5), 0.0, 5.0, 0.0, 0.0);
        line(noted(7, 5), 2.0, 5.0, 0.0, 0.0);
        line(noted(5, -7), 12.0, -7.0, 0.0, 0.0);
    }

    private static void straightLine() {
        BelfryHouse x = noted(1.5, 2.0, 2.5, 3.0, 3.5);
        line(x, 0.5, 1.5, 0.0, 0.0);
        for (int i = 0; i < 5; i++) {
            Check.due("time", x.along(i, 0), bits(1.5 + 0.5 * i));
            Check.due("error", x.along(i, 1), bits(0.0));
            Check.due("place", x.along(i, 2), bits(i));
        }
        x.note(1, bits(4.75));
        Check.holds("a blow moves the line", x.line(0) != bits(0.5));
        x.note(1, NAN);
        Check.due("one that is not known is not on it", x.along(6, 0), 0);
    }

    private static void line() {
        // 0, 0, 3: S 3, P 6, A 3, B 5: GAP (18 - 9) / (15 - 9), LEAD (3 - 4.5) / 3, errors 0.5, -1, 0.5
        BelfryHouse x = noted(3, 0, -0.0);
        line(x, 1.5, -0.5, 1.0, Math.sqrt(1.5 / 3.0));
        Check.due("error", x.along(0, 1), bits(0.5));
        Check.due("error", x.along(1, 1), bits(-1.0));
        Check.due("error", x.along(2, 1), bits(0.5));
        Check.due("rint (0.5 / 1.5)", x.along(0, 2), bits(0.0));
        Check.due("rint (3.5 / 1.5)", x.along(2, 2), bits(2.0));
        // all at one time: GAP 0, so that the place is 0 / 0
        x = noted(4, 4, 4);
        line(x, 0.0, 4.0, 0.0, 0.0);
        Check.due("no place", x.along(1, 2), NAN);
    }

    private static void endless() {
        double inf = Double.POSITIVE_INFINITY;
        line(noted(1, inf), Double.NaN, Double.NaN, Double.NaN, Double.NaN);
        line(noted(-inf, inf), Double.NaN, Double.NaN, Double.NaN, Double.NaN);
        BelfryHouse x = noted(-inf, 0);
        Check.due("its time", x.along(0, 0), bits(-inf));
        Check.due("its error", x.along(0, 1), NAN);
        Check.due("its place", x.along(0, 2), NAN);
        // the sum is beyond all doubles, but no time is
        x = noted(Double.MAX_VALUE, Double.MAX_VALUE);
        Check.due("GAP", x.line(0), bits((2.0 * Double.MAX_VALUE - 1.0 * (Double.MAX_VALUE + Double.MAX_VALUE)) / 1.0));
    }

    private static void refusals() {
        BelfryHouse x = noted(1, 2, 4);
        int[] far = {-1, 4, Integer.MAX_VALUE, Integer.MIN_VALUE};
        for (int what : far) Check.due("line " + what, x.line(what), 0);
        for (int what = 0; what < 3; what++) Check.holds("along 2 is not 0", x.along(2, what) != 0);
        for (int what : far) Check.due("along 2 " + what, x.along(2, what), 0);
        Check.due("along 2 3", x.along(2, 3), 0);
        for (int i : far) Check.due("along " + i, x.along(i, 0), 0);
        Check.due("along 3", x.along(3, 0), 0);
    }

    private static double errorOf(double time, double lead, double gap, int i) {
        return time - (lead + gap * (double) i);
    }

    /** Pairs and threes of times of every size, held against the machine's own doubles. */
    private static void doublesOfAllSizes() {
        java.util.Random random = new java.util.Random(5);
        long[] edges = {0, 1, 2, 3, 0x000fffffffffffffL, 0x0010000000000000L, 0x0010000000000001L, 0x001fffffffffffffL,
            0x3fe0000000000000L, 0x3fefffffffffffffL, 0x3ff0000000000000L, 0x4330000000000000L, 0x7fefffffffffffffL, 0x7fe0000000000000L};
        BelfryHouse x = new BelfryHouse();
        for (int round = 0; round < 90000; round++) {
            int m = 2 + random.nextInt(3);
            double[] times = new double[m];
            // some so small that the squares of their errors are the least doubles of all, some that they are themselves
            int exponent = round % 9 < 2 ? 484 + random.nextInt(30) : round % 9 == 3 ? random.nextInt(60) : random.nextInt(2046);
            for (int i = 0; i < m; i++) {
                long near = Math.min(2046, Math.max(0, exponent + random.nextInt(5) - 2));
                long bits = near << 52 | random.nextLong() & (1L << 52) - 1;
                if (round % 9 > 6) bits = edges[random.nextInt(edges.length)];
                times[i] = Double.longBitsToDouble(bits | (random.nextInt(3) == 0 ? Long.MIN_VALUE : 0));
            }
            x.wipe();
            for (double time : times) x.note(1, bits(time));
            java.util.Arrays.sort(times);
            hold(x, times);
        }
    }

    private static void hold(BelfryHouse x, double[] t) {
        int m = t.length;
        double s = 0.0, p = 0.0, a = m * (m - 1) / 2, b = 0;
        for (int i = 0; i < m; i++) {
            // Arrays.sort puts -0.0 ahead of 0.0, BelfryHouse the one that was noted first
            t[i] = Double.longBitsToDouble(x.along(i, 0));
            s = s + t[i];
            p = p + i * t[i];
            b = b + i * i;
        }
        double gap = (m * p - a * s) / (m * b - a * a), lead = (s - gap * a) / m, greatest = 0.0, squares = 0.0;
        for (int i = 0; i < m; i++) {
            double error = errorOf(t[i], lead, gap, i);
            greatest = Math.max(greatest, Math.abs(error));
            squares = squares + error * error;
            Check.due("error of " + t[i], x.along(i, 1), bits(error));
            Check.due("place of " + t[i], x.along(i, 2), bits(Math.rint((t[i] - lead) / gap)));
        }
        line(x, gap, lead, greatest, Math.sqrt(squares / m));
    }

    /** Two blows make GAP and LEAD what one likes; a third far between shows the nearest whole number. */
    private static void wholeNumbers() {
        java.util.Random random = new java.util.Random(6);
        for (int round = 0; round < 3000; round++) {
            double[] times = new double[6];
            for (int i = 0; i < 6; i++) times[i] = random.nextInt(round % 2 == 0 ? 12 : 100) * (round % 3 == 0 ? 0.5 : 0.25);
            java.util.Arrays.sort(times);
            hold(noted(times), times);
        }
    }
}
