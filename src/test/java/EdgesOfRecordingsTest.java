/** Section 6 of the terms and promises 28 to 34: a test for each sentence that names a boundary. */
final class EdgesOfRecordingsTest {
    private static final int BAD = -1, FULL = -3;
    private static final long NAN = 0x7ff8000000000000L, MINUS_ZERO = Long.MIN_VALUE;
    private static final double ENDLESS = Double.POSITIVE_INFINITY, LEAST = Double.MIN_VALUE, MOST = Double.MAX_VALUE;

    public static void main(String[] args) {
        threeHundred();
        numbersAsTheyCome();
        allNaNAreOne();
        notKnown();
        anyDouble();
        leastFirst();
        bothZeros();
        likeOnes();
        heardRows();
        lineOfNone();
        lineOfOne();
        lineOfTwo();
        gapAndLead();
        sums();
        wholeNumbersThenDoubles();
        errors();
        note();
        noteRefuses();
        wipe();
        listen();
        listenSeconds();
        listenFull();
        listenWithout();
        inOrderRefuses();
        heardTwice();
        heardRefuses();
        greatest();
        root();
        lineRefuses();
        lineAnew();
        along();
        rint();
        alongRefuses();
        Check.finish();
    }

    private static long bits(double time) {
        return Double.doubleToLongBits(time);
    }

    /** On three bells, which blow by turns. */
    private static BelfryHouse noted(double... times) {
        BelfryHouse x = new BelfryHouse();
        x.stage(3);
        for (int i = 0; i < times.length; i++) Check.due("note", x.note(i % 3 + 1, bits(times[i])), i);
        return x;
    }

    private static void order(BelfryHouse x, int... numbers) {
        for (int i = 0; i < numbers.length; i++) {
            Check.due("number of the " + i + "th", x.inOrder(i, 0), numbers[i]);
            Check.due("bell of the " + i + "th", x.inOrder(i, 1), numbers[i] % 3 + 1);
        }
        Check.due("no more", x.inOrder(numbers.length, 0), BAD);
    }

    private static void threeHundred() {
        Check.sentence("THE RECORDING: BLOWS (300), each of a bell, with a TIME");
        BelfryHouse x = new BelfryHouse();
        for (int i = 0; i < 300; i++) Check.due("BLOW " + i, x.note(6, bits(-i)), i);
        Check.due("BLOW 300", x.note(6, 0), FULL);
        Check.due("the last is there", x.inOrder(0, 0), 299);
        Check.due("the first, too", x.inOrder(299, 0), 0);
        Check.due("no other", x.inOrder(300, 0), BAD);
        Check.due("wipe", x.wipe(), 300);
        Check.due("there is room again", x.note(6, 0), 0);
    }

    private static void numbersAsTheyCome() {
        Check.sentence("What there is has its number from 0 on, as it comes.");
        BelfryHouse x = noted(3, Double.NaN, 1);
        Check.due("the least came as number 2", x.inOrder(0, 0), 2);
        Check.due("the greatest as number 0", x.inOrder(1, 0), 0);
        Check.due("the next", x.note(1, 0), 3);
        Check.due("METHOD 0", Check.method(x, "hold;"), 0);
        Check.due("METHOD 1", Check.method(x, "hold;"), 1);
        x.ring(0);
        Check.due("ROW 0", x.rowAt(0), 123);
        x.heads(0, 0);
        Check.due("HEAD 0", x.head(0), 123);
        Check.due("BOARD 0", x.board(0, 0, 1), 0);
        Check.due("item 0", x.item(0, 0, 0), 0);
        Check.due("rule 0", x.change(0, 0, 321), 321);
    }

    private static void allNaNAreOne() {
        Check.sentence("(told as Double.doubleToLongBits, all NaN are one)");
        BelfryHouse x = noted(-ENDLESS, ENDLESS, 0);
        long[] nans = {x.line(0), x.line(1), x.line(2), x.line(3), x.along(0, 1), x.along(1, 2), noted().line(0), noted(1).along(0, 2)};
        for (int i = 0; i < nans.length; i++) Check.due("NaN " + i, nans[i], NAN);
        x = noted(MOST, MOST, -MOST, ENDLESS);
        for (int what = 0; what < 4; what++) Check.due("NaN of endless sums", x.line(what), NAN);
    }

    private static void notKnown() {
        Check.sentence("(any double; NaN: it is not known)");
        BelfryHouse x = noted(2, 1);
        long[] nans = {NAN, 0x7ff0000000000001L, 0x7fffffffffffffffL, 0xfff0000000000001L, 0xfff8000000000000L, -1L};
        for (int i = 0; i < nans.length; i++) Check.due("a BLOW all the same", x.note(i % 3 + 1, nans[i]), 2 + i);
        order(x, 1, 0);
        Check.due("no time", x.along(2, 0), 0);
        Check.due("they are none of m", x.line(0), bits(1.0));
        Check.due("they are counted", x.wipe(), 8);
        BelfryHouse y = new BelfryHouse();
        for (int i = 0; i < 300; i++) y.note(1, NAN);
        Check.due("they take room", y.note(1, 0), FULL);
        Check.due("none is known", y.inOrder(0, 0), BAD);
        Check.due("no line", y.line(0), NAN);
    }

    private static void anyDouble() {
        Check.sentence("(any double; NaN: it is not known)");
        double[] times = {ENDLESS, -ENDLESS, MOST, -MOST, LEAST, -LEAST, 0.0, Double.MIN_NORMAL, -Double.MIN_NORMAL};
        BelfryHouse x = noted(times);
        order(x, 1, 3, 8, 5, 6, 4, 7, 2, 0);
        java.util.Arrays.sort(times);
        for (int i = 0; i < times.length; i++) Check.due("its BITS", x.along(i, 0), bits(times[i]));
    }

    private static void leastFirst() {
        Check.sentence("IN ORDER: those known, the least TIME first");
        order(noted(1, 2, 3), 0, 1, 2);
        order(noted(3, 2, 1), 2, 1, 0);
        order(noted(-1, -2, -3), 2, 1, 0);
        order(noted(1, -1, 0), 1, 2, 0);
        order(noted(1.0, Math.nextUp(1.0), Math.nextDown(1.0)), 2, 0, 1);
        order(noted(-1.0, Math.nextUp(-1.0), Math.nextDown(-1.0)), 2, 0, 1);
        order(noted(), new int[0]);
    }

    private static void bothZeros() {
        Check.sentence("(-0.0 is as 0.0)");
        order(noted(0.0, -0.0), 0, 1);
        order(noted(-0.0, 0.0), 0, 1);
        order(noted(0.0, -0.0, -LEAST, LEAST), 2, 0, 1, 3);
        BelfryHouse x = noted(0.0, -0.0);
        Check.due("its own BITS", x.along(0, 0), 0);
        Check.due("its own BITS", x.along(1, 0), MINUS_ZERO);
    }

    private static void likeOnes() {
        Check.sentence("of like ones the one noted first.");
        order(noted(1, 1, 1), 0, 1, 2);
        order(noted(2, 1, 2, 1, 2, 1), 1, 3, 5, 0, 2, 4);
        order(noted(ENDLESS, ENDLESS, -ENDLESS, -ENDLESS), 2, 3, 0, 1);
    }

    private static void heardRows() {
        Check.sentence("HEARD ROW k: the k-th n BLOWS in this order.");
        for (int n = 3; n <= 8; n++) {
            BelfryHouse x = new BelfryHouse();
            x.stage(n);
            for (int i = 0; i < 2 * n; i++) {
                Check.due("not yet " + i, x.heard(i / n), BAD);
                x.note(i < n ? i + 1 : 2 * n - i, bits(i));
            }
            Check.due("ROW 0", x.heard(0), Everything.rounds(n));
            int turned = 0;
            for (int bell = n; bell >= 1; bell--) turned = turned * 10 + bell;
            Check.due("ROW 1", x.heard(1), turned);
            Check.due("ROW 2", x.heard(2), BAD);
            x.note(1, NAN);
            Check.due("one not known moves none", x.heard(0), Everything.rounds(n));
        }
        BelfryHouse x = new BelfryHouse();
        for (int i = 0; i < 300; i++) x.note(i % 6 + 1, bits(i));
        Check.due("the last of fifty", x.heard(49), 123456);
        Check.due("no more", x.heard(50), BAD);
    }

    // ---- the line

    /** GAP, LEAD, the greatest size of an ERROR, the root. */
    private static void line(BelfryHouse x, double gap, double lead, double greatest, double root) {
        Check.due("GAP", x.line(0), bits(gap));
        Check.due("LEAD", x.line(1), bits(lead));
        Check.due("greatest", x.line(2), bits(greatest));
        Check.due("root", x.line(3), bits(root));
    }

    private static void lineOfNone() {
        Check.sentence("THE LINE by the m BLOWS IN ORDER");
        // m 0: GAP 0 / 0; no ERROR: 0.0; the root of 0 / 0
        line(noted(), Double.NaN, Double.NaN, 0.0, Double.NaN);
        line(noted(Double.NaN, Double.NaN), Double.NaN, Double.NaN, 0.0, Double.NaN);
        BelfryHouse x = noted(1, 2, 3);
        x.wipe();
        line(x, Double.NaN, Double.NaN, 0.0, Double.NaN);
    }

    private static void lineOfOne() {
        Check.sentence("GAP = (m * P - A * S) / (m * B - A * A); LEAD = (S - GAP * A) / m.");
        // m 1: A, B and P are 0: GAP 0 / 0
        for (double time : new double[] {5, 0, -0.0, -3, MOST}) {
            BelfryHouse x = noted(time);
            line(x, Double.NaN, Double.NaN, Double.NaN, Double.NaN);
            Check.due("its TIME", x.along(0, 0), bits(time));
            Check.due("its ERROR", x.along(0, 1), NAN);
            Check.due("its place", x.along(0, 2), NAN);
        }
    }

    private static void lineOfTwo() {
        Check.sentence("GAP = (m * P - A * S) / (m * B - A * A); LEAD = (S - GAP * A) / m.");
        // m 2: A 1, B 1, P the second, S both: GAP (2 P - S) / 1, LEAD (S - GAP) / 2
        line(noted(5, 7), 2.0, 5.0, 0.0, 0.0);
        line(noted(7, 5), 2.0, 5.0, 0.0, 0.0);
        line(noted(5, 5), 0.0, 5.0, 0.0, 0.0);
        line(noted(-1, 1), 2.0, -1.0, 0.0, 0.0);
        line(noted(0, LEAST), LEAST, 0.0, 0.0, 0.0);
        line(noted(MOST, MOST), -ENDLESS + ENDLESS, Double.NaN, Double.NaN, Double.NaN);
        line(noted(-ENDLESS, ENDLESS), Double.NaN, Double.NaN, Double.NaN, Double.NaN);
        line(noted(0, ENDLESS), Double.NaN, Double.NaN, Double.NaN, Double.NaN);
    }

    private static void gapAndLead() {
        Check.sentence("BITS: 0 GAP, 1 LEAD");
        line(noted(10, 12, 14, 16), 2.0, 10.0, 0.0, 0.0);
        line(noted(16, 12, 14, 10), 2.0, 10.0, 0.0, 0.0);
        line(noted(0.25, 0.25, 0.25), 0.0, 0.25, 0.0, 0.0);
        line(noted(-2, Double.NaN, 2, 0), 2.0, -2.0, 0.0, 0.0);
    }

    /** As many as there may be: m * B and A * A are beyond 32 bits. */
    private static void wholeNumbersThenDoubles() {
        Check.sentence("A = m (m - 1) / 2, B the sum of i i, as whole numbers, then doubles");
        for (int m : new int[] {3, 46, 92, 150, 300}) {
            BelfryHouse x = new BelfryHouse();
            double s = 0.0, p = 0.0;
            long a = (long) m * (m - 1) / 2, b = 0;
            for (int i = 0; i < m; i++) {
                double t = i * i / 7.0 + i * 0.1;
                x.note(1, bits(t));
                s += t;
                p += i * t;
                b += (long) i * i;
            }
            double gap = ((double) m * p - (double) a * s) / ((double) m * (double) b - (double) a * (double) a);
            double lead = (s - gap * (double) a) / (double) m;
            double squares = 0.0;
            for (int i = 0; i < m; i++) {
                double error = i * i / 7.0 + i * 0.1 - (lead + gap * i);
                squares += error * error;
                if (i < 150) Check.due("ERROR " + i + " of " + m, x.along(i, 1), bits(error));
            }
            Check.due("GAP of " + m, x.line(0), bits(gap));
            Check.due("LEAD of " + m, x.line(1), bits(lead));
            Check.due("root of " + m, x.line(3), bits(Math.sqrt(squares / m)));
        }
    }

    private static void sums() {
        Check.sentence("as doubles, from the left, sums from 0.0 on in order: S the sum of t, P of i * t");
        // 1e16 and 1 and 1 make 1e16, but 1 and 1 and 1e16 make 1e16 and 2
        double[][] all = {{1, 1, 1e16}, {-1e16, 1, 1}, {-1e16, 1, 1e16}, {-0.0, -0.0, -0.0}, {-0.0, -0.0}, {0.1, 0.2, 0.3, 0.4},
            {1e-300, 2e-300, 1e300}, {-MOST, 0, MOST}, {LEAST, 2 * LEAST, 4 * LEAST, 5 * LEAST}};
        for (double[] t : all) {
            int m = t.length;
            double s = 0.0, p = 0.0;
            for (int i = 0; i < m; i++) s += t[i];
            for (int i = 0; i < m; i++) p += i * t[i];
            double a = m * (m - 1) / 2, b = m == 2 ? 1 : m == 3 ? 5 : 14;
            double gap = (m * p - a * s) / (m * b - a * a);
            BelfryHouse x = noted(t);
            Check.due("GAP of " + t[0], x.line(0), bits(gap));
            Check.due("LEAD of " + t[0], x.line(1), bits((s - gap * a) / m));
        }
    }

    private static void errors() {
        Check.sentence("ERROR of a BLOW: t - (LEAD + GAP * i).");
        // 0, 0, 3: S 3, P 6, A 3, B 5: GAP (18 - 9) / (15 - 9) = 1.5, LEAD (3 - 4.5) / 3 = -0.5
        BelfryHouse x = noted(3, 0, 0);
        double[] due = {0.5, -1.0, 0.5};
        for (int i = 0; i < 3; i++) Check.due("ERROR " + i, x.along(i, 1), bits(due[i]));
        x = noted(1, 2, 3, 4);
        for (int i = 0; i < 4; i++) Check.due("none " + i, x.along(i, 1), bits(0.0));
    }

    // ---- the calls

    private static void note() {
        Check.sentence("A BLOW: its number.");
        BelfryHouse x = noted();
        for (int i = 0; i < 5; i++) Check.due("its number", x.note(3, i % 2 == 0 ? NAN : bits(-i)), i);
        x.wipe();
        Check.due("from 0 on again", x.note(3, 0), 0);
        x.stage(3);
        Check.due("from 0 on again", x.note(3, 0), 0);
    }

    private static void noteRefuses() {
        Check.sentence("A BLOW: its number. BAD: no bell. FULL.");
        for (int n = 3; n <= 8; n++) {
            BelfryHouse x = new BelfryHouse();
            x.stage(n);
            Check.due("bell 0", x.note(0, 0), BAD);
            Check.due("bell -1", x.note(-1, 0), BAD);
            Check.due("bell n + 1", x.note(n + 1, 0), BAD);
            Check.due("bell 1", x.note(1, 0), 0);
            Check.due("bell n", x.note(n, 0), 1);
            for (int i = 2; i < 300; i++) x.note(1, 0);
            Check.due("FULL", x.note(1, 0), FULL);
            Check.due("FULL of one not known, too", x.note(1, NAN), FULL);
        }
    }

    private static void wipe() {
        Check.sentence("No BLOWS: how many there were.");
        BelfryHouse x = noted(3, Double.NaN, 1);
        Check.due("three", x.wipe(), 3);
        Check.due("none", x.wipe(), 0);
        order(x, new int[0]);
        Check.due("none heard", x.heard(0), BAD);
        Check.due("no time", x.along(0, 0), 0);
        Check.due("none", new BelfryHouse().wipe(), 0);
    }

    /** A ringing of so many rows in which all blow just in time. */
    private static BelfryHouse rungInTime(int n, String text, int from, int rows) {
        BelfryHouse x = Check.rung(n, text, 450);
        for (int bell = 1; bell <= n; bell++) x.ringer(bell, 0, 20);
        Check.due("band", x.band(0, from, rows), rows);
        return x;
    }

    private static void listen() {
        Check.sentence("All that is blown in the latest RINGING is noted, by ROWS, then PLACES");
        BelfryHouse x = rungInTime(6, "cross;", 1, 2);
        x.note(6, bits(-1));
        Check.due("twelve", x.listen(), 12);
        int[] bells = {6, 2, 1, 4, 3, 6, 5, 1, 2, 3, 4, 5, 6};
        for (int i = 0; i < bells.length; i++) {
            Check.due("number", x.inOrder(i, 0), i);
            Check.due("bell", x.inOrder(i, 1), bells[i]);
        }
        // numbers go by PLACES, not by TIMES: bell 2 blows late, behind bell 3
        BelfryHouse y = Check.rung(3, "hold;", 1);
        for (int bell = 1; bell <= 3; bell++) y.ringer(bell, bell == 3 ? 1 : 0, bell == 1 ? 20 : 0);
        int seed = 0;
        while (seed < 400 && (y.band(seed, 0, 1) != 1 || y.blow(0, 2) <= y.blow(0, 3))) y = again(y, ++seed);
        Check.due("three", y.listen(), 3);
        Check.due("bell 2", y.inOrder(2, 0), 1);
        Check.due("bell 3", y.inOrder(1, 0), 2);
    }

    /** A new object like it, so that none is asked too often. */
    private static BelfryHouse again(BelfryHouse x, int seed) {
        if (seed % 100 != 0) return x;
        BelfryHouse y = Check.rung(3, "hold;", 1);
        for (int bell = 1; bell <= 3; bell++) y.ringer(bell, bell == 3 ? 1 : 0, bell == 1 ? 20 : 0);
        return y;
    }

    private static void listenSeconds() {
        Check.sentence("TIMES in seconds (thousandths / 1000.0): how many.");
        BelfryHouse x = rungInTime(3, "hold;", 0, 2);
        Check.due("six", x.listen(), 6);
        double[] due = {0.02, 0.04, 0.06, 0.08, 0.1, 0.12};
        for (int i = 0; i < 6; i++) Check.due("time", x.along(i, 0), bits(due[i]));
        // bell 1 of skill 0 at ROW 0: 20 and a DRAW of -20 .. 20, less 15 if EARLY: 0 and what is below 0 are told, too
        int zeros = 0, below = 0;
        for (int seed = 0; seed < 400; seed++) {
            if (seed % 100 == 0) {
                x = rungInTime(3, "hold;", 0, 1);
                x.ringer(1, seed < 200 ? 1 : 0, 0);
            }
            x.band(seed, 0, 1);
            int time = x.blow(0, 1);
            if (time > 0) continue;
            x.wipe();
            x.listen();
            Check.due("a time of " + time, x.along(0, 0), bits(time / 1000.0));
            if (time == 0) zeros++;
            else below++;
        }
        Check.holds("there were both", zeros > 0 && below > 0);
    }

    private static void listenFull() {
        Check.sentence("FULL: not all find room (none is noted).");
        BelfryHouse x = rungInTime(6, "hold;", 0, 50);
        Check.due("300", x.listen(), 300);
        Check.due("no room", x.listen(), FULL);
        Check.due("300", x.wipe(), 300);
        x.note(1, NAN);
        Check.due("no room for the last one", x.listen(), FULL);
        Check.due("none is noted", x.inOrder(0, 0), BAD);
        Check.due("one", x.wipe(), 1);
        x.band(0, 0, 51);
        Check.due("never any room", x.listen(), FULL);
        Check.due("none", x.wipe(), 0);
        x.band(0, 0, 1);
        for (int i = 0; i < 295; i++) x.note(1, bits(9));
        Check.due("one too few", x.listen(), FULL);
        Check.due("none is noted", x.wipe(), 295);
        for (int i = 0; i < 2; i++) x.note(1, bits(9));
        Check.due("six", x.listen(), 6);
        BelfryHouse y = rungInTime(8, "hold;", 0, 400);
        Check.due("far too many", y.listen(), FULL);
        Check.due("none", y.wipe(), 0);
        BelfryHouse z = rungInTime(6, "hold;", 0, 1);
        for (int i = 0; i < 294; i++) z.note(1, 0);
        Check.due("just room", z.listen(), 6);
        Check.due("300", z.wipe(), 300);
    }

    private static void listenWithout() {
        Check.sentence("All that is blown in the latest RINGING is noted");
        BelfryHouse x = noted(1);
        Check.due("no RINGING", x.listen(), 0);
        for (int i = 1; i < 300; i++) x.note(1, 0);
        Check.due("FULL, but there is none to note", x.listen(), 0);
        BelfryHouse y = rungInTime(6, "hold;", 0, 2);
        y.band(0, 450, 2);
        Check.due("a refused RINGING is none", y.listen(), 12);
        y.ring(0);
        Check.due("the RINGING stays when a RUN begins", y.listen(), 12);
        y.stage(6);
        Check.due("none behind stage", y.listen(), 0);
    }

    private static void inOrderRefuses() {
        Check.sentence("The i-th BLOW IN ORDER: 0 its number, 1 its bell. BAD.");
        Check.due("none", noted().inOrder(0, 0), BAD);
        BelfryHouse x = noted(2, Double.NaN, 1);
        Check.due("-1", x.inOrder(-1, 0), BAD);
        Check.due("0", x.inOrder(0, 0), 2);
        Check.due("0", x.inOrder(0, 1), 3);
        Check.due("1", x.inOrder(1, 0), 0);
        Check.due("2, which is not known", x.inOrder(2, 0), BAD);
        Check.due("what -1", x.inOrder(0, -1), BAD);
        Check.due("what 2", x.inOrder(0, 2), BAD);
    }

    private static void heardTwice() {
        Check.sentence("HEARD ROW k; 0: a bell is twice in it.");
        int[][] rows = {{1, 1, 2}, {1, 2, 1}, {2, 1, 1}, {3, 3, 3}, {1, 2, 3}, {3, 1, 2}};
        int[] due = {0, 0, 0, 0, 123, 312};
        BelfryHouse x = noted();
        for (int i = 0; i < rows.length; i++) {
            for (int p = 0; p < 3; p++) x.note(rows[i][p], bits(3 * i + p));
            Check.due("ROW " + i, x.heard(i), due[i]);
        }
        x.wipe();
        for (int bell : new int[] {1, 2, 3, 3, 2, 1}) x.note(bell, 0);
        Check.due("twice, but not in one ROW", x.heard(0), 123);
        Check.due("twice, but not in one ROW", x.heard(1), 321);
    }

    private static void heardRefuses() {
        Check.sentence("BAD: there are not so many.");
        Check.due("none", noted().heard(0), BAD);
        Check.due("two of three", noted(1, 2).heard(0), BAD);
        Check.due("two of three, and one not known", noted(1, 2, Double.NaN).heard(0), BAD);
        Check.due("three", noted(1, 2, 3).heard(0), 123);
        Check.due("-1", noted(1, 2, 3).heard(-1), BAD);
        Check.due("ROW 1", noted(1, 2, 3, 4, 5).heard(1), BAD);
        Check.due("ROW 1", noted(1, 2, 3, 4, 5, 6).heard(1), 123);
    }

    private static void greatest() {
        Check.sentence("2 the greatest size of an ERROR (by max, from 0.0 on, in order)");
        Check.due("one below 0", noted(0, 0, 3).line(2), bits(1.0));
        Check.due("one above 0", noted(0, 3, 3).line(2), bits(1.0));
        Check.due("all 0", noted(1, 2, 3).line(2), 0);
        Check.due("none", noted().line(2), 0);
        Check.due("NaN", noted(1).line(2), NAN);
        Check.due("endless ones", noted(-ENDLESS, 0, 1).line(2), NAN);
    }

    private static void root() {
        Check.sentence("3 the root of (the sum of all ERRORS' squares, in order, / m).");
        Check.due("0.25, 1, 0.25", noted(0, 0, 3).line(3), bits(Math.sqrt(1.5 / 3)));
        Check.due("0", noted(1, 2, 3).line(3), 0);
        // 0.5, -0.5, -0.5, 0.5: the root of 0.25
        Check.due("0.5", noted(0.5, 0.5, 1.5, 3.5).line(3), bits(0.5));
        Check.due("none", noted().line(3), NAN);
        // the squares are beyond all doubles
        Check.due("endless", noted(0, 0, 1e200).line(3), bits(ENDLESS));
        // the squares are too small for any double
        Check.due("nothing", noted(0, 0, 1e-200).line(3), 0);
    }

    private static void lineRefuses() {
        Check.sentence("3 the root of (the sum of all ERRORS' squares, in order, / m). BAD: 0.");
        BelfryHouse x = noted(1, 2, 4);
        Check.due("-1", x.line(-1), 0);
        Check.due("4", x.line(4), 0);
        Check.holds("0 to 3", x.line(0) != 0 && x.line(1) != 0 && x.line(2) != 0 && x.line(3) != 0);
        Check.due("-1 of none", noted().line(-1), 0);
        Check.due("4 of none", noted().line(4), 0);
    }

    private static void lineAnew() {
        Check.sentence("THE LINE by the m BLOWS IN ORDER");
        BelfryHouse x = noted(0, 0, 300);
        Check.due("a great ERROR", x.line(2), bits(100.0));
        x.wipe();
        long[] none = {NAN, NAN, 0, NAN};
        for (int what = 0; what < 4; what++) Check.due("none behind wipe: " + what, x.line(what), none[what]);
        lineOfThree(x);
        x = noted(0, 0, 300);
        Check.due("a great ERROR", x.line(2), bits(100.0));
        x.wipe();
        lineOfThree(x);
        x = noted(0, 0, 300);
        Check.due("a great ERROR", x.line(2), bits(100.0));
        x.stage(3);
        for (int what = 0; what < 4; what++) Check.due("none behind stage: " + what, x.line(what), none[what]);
        lineOfThree(x);
        // GAP 100, LEAD 0
        x = noted(0, 100);
        Check.due("on the line", x.line(2), 0);
        x.note(1, bits(50));
        Check.due("a BLOW between", x.line(2), bits(0.0));
        x.note(1, bits(54));
        Check.holds("and one that is not on the line", x.line(2) != 0);
    }

    private static void lineOfThree(BelfryHouse x) {
        for (int time : new int[] {0, 0, 3}) x.note(1, bits(time));
        double[] due = {1.5, -0.5, 1.0, Math.sqrt(1.5 / 3)};
        for (int what = 0; what < 4; what++) Check.due("of these three alone: " + what, x.line(what), bits(due[what]));
    }

    private static void along() {
        Check.sentence("BITS of the i-th BLOW's (IN ORDER): 0 TIME, 1 ERROR, 2 rint ((TIME - LEAD) / GAP).");
        BelfryHouse x = noted(3, 0, 0);
        double[][] due = {{0, 0.5, 0}, {0, -1, 0}, {3, 0.5, 2}};
        for (int i = 0; i < 3; i++) {
            for (int what = 0; what < 3; what++) Check.due("along " + i + " " + what, x.along(i, what), bits(due[i][what]));
        }
        Check.due("GAP 0", noted(4, 4).along(1, 2), NAN);
        // 1, 3, 8: S 12, P 19: GAP (57 - 36) / 6, LEAD (12 - 10.5) / 3
        x = noted(1, 3);
        Check.due("on the line", x.along(0, 1), bits(0.0));
        x.note(1, bits(8));
        Check.due("a BLOW moves the line", x.along(0, 1), bits(0.5));
        x.note(1, NAN);
        Check.due("one not known does not", x.along(0, 1), bits(0.5));
        x.wipe();
        x.note(1, bits(1));
        x.note(1, bits(3));
        Check.due("a new line", x.along(0, 1), bits(0.0));
    }

    private static void rint() {
        Check.sentence("2 rint ((TIME - LEAD) / GAP).");
        // GAP 1, LEAD 0: what is a half goes to the even one
        BelfryHouse x = noted(0.5, 0.5, 1.5, 3.5);
        Check.due("GAP", x.line(0), bits(1.0));
        Check.due("LEAD", x.line(1), bits(0.0));
        double[] due = {0.0, 0.0, 2.0, 4.0};
        for (int i = 0; i < 4; i++) Check.due("rint of " + i, x.along(i, 2), bits(due[i]));
        x = noted(-0.5, 1.5, 2.5, 2.5);
        double[] below = {-0.0, 2.0, 2.0, 2.0};
        Check.due("GAP", x.line(0), bits(1.0));
        Check.due("LEAD", x.line(1), bits(0.0));
        for (int i = 0; i < 4; i++) Check.due("rint of " + i, x.along(i, 2), bits(below[i]));
        x = noted(-0.75, 1.75, 2.75, 2.25);
        double gap = Double.longBitsToDouble(x.line(0)), lead = Double.longBitsToDouble(x.line(1));
        double[] times = {-0.75, 1.75, 2.25, 2.75};
        for (int i = 0; i < 4; i++) Check.due("rint of " + i, x.along(i, 2), bits(Math.rint((times[i] - lead) / gap)));
    }

    private static void alongRefuses() {
        Check.sentence("2 rint ((TIME - LEAD) / GAP). BAD: 0.");
        for (int what = 0; what < 3; what++) Check.due("none", noted().along(0, what), 0);
        BelfryHouse x = noted(1, 2, 4, Double.NaN);
        for (int what = 0; what < 3; what++) {
            Check.due("-1", x.along(-1, what), 0);
            Check.due("3, which is not known", x.along(3, what), 0);
            Check.holds("2", x.along(2, what) != 0);
        }
        Check.due("what -1", x.along(2, -1), 0);
        Check.due("what 3", x.along(2, 3), 0);
    }
}
