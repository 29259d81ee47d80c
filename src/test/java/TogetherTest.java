import java.util.Random;

/** Runs of calls, made by a counter that is always the same, on BelfryHouse and on PlainBelfry: all answers are alike. */
final class TogetherTest {
    private static final int RUNS = 2500, CALLS = 512;
    private static final int[] STRANGE = {Integer.MIN_VALUE, Integer.MIN_VALUE + 1, -1000000, -65, -64, -10, -9, -2, -1, 0, 1, 2,
        3, 7, 8, 9, 20, 21, 60, 63, 64, 65, 99, 299, 300, 301, 399, 400, 401, 499, 500, 501, 719, 720, 1999, 2000, 2001, 40319, 40320,
        Integer.MAX_VALUE - 1, Integer.MAX_VALUE};
    private static final long[] TIMES = {0L, Long.MIN_VALUE, 1L, Long.MIN_VALUE + 1, 0x000fffffffffffffL, 0x0010000000000000L,
        0x7fefffffffffffffL, 0xffefffffffffffffL, 0x7ff0000000000000L, 0xfff0000000000000L, 0x7ff8000000000000L,
        0x7ff0000000000001L, 0xffffffffffffffffL, 0x3ff0000000000000L, 0xbff0000000000000L, 0x3fe0000000000000L};

    private final Random random;
    private final BelfryHouse x = new BelfryHouse();
    private final PlainBelfry y = new PlainBelfry();
    private final int likes;
    private final int timesAre;
    private int n = 6;
    private int calls = 0;

    private TogetherTest(int run) {
        random = new Random(run);
        likes = random.nextInt(8);
        timesAre = random.nextInt(5);
    }

    public static void main(String[] args) {
        for (int run = 0; run < RUNS; run++) {
            TogetherTest together = new TogetherTest(run);
            while (together.calls < CALLS) together.next(run);
        }
        Check.finish();
    }

    private void same(String call, long got, long want) {
        calls++;
        Check.due(call + " as call " + calls, got, want);
    }

    /** Mostly a number from least to most, now and then one that nobody asked for. */
    private int number(int least, int most) {
        int way = random.nextInt(40);
        if (way == 0) return STRANGE[random.nextInt(STRANGE.length)];
        if (way == 1) return least - 1;
        if (way == 2) return most + 1;
        if (way == 3) return most;
        return least + random.nextInt(Math.max(1, most - least + 1));
    }

    private int row() {
        int way = random.nextInt(30);
        if (way == 0) return STRANGE[random.nextInt(STRANGE.length)];
        int row = y.ranked(random.nextInt(factorial()));
        if (way == 1) return row + 1;
        if (way == 2) return row * 10 + 1;
        if (way == 3) return -row;
        return row;
    }

    private int factorial() {
        int product = 1;
        for (int i = 2; i <= n; i++) product *= i;
        return product;
    }

    private void next(int run) {
        int section = random.nextInt(3) == 0 ? likes : random.nextInt(8);
        String where = "run " + run + ": ";
        switch (section) {
            case 0: rows(where); break;
            case 1: methods(where); break;
            case 2: theRun(where); break;
            case 3: groups(where); break;
            case 4: band(where); break;
            case 5: recording(where); break;
            case 6: shelf(where); break;
            default: rare(where); break;
        }
    }

    private void rare(String where) {
        if (random.nextInt(12) != 0) {
            methods(where);
            theRun(where);
            return;
        }
        int to = number(3, 8);
        same(where + "stage " + to, x.stage(to), y.stage(to));
        if (to >= 3 && to <= 8) n = to;
    }

    private void rows(String where) {
        int a = row(), b = row(), what = number(0, 2), rank = number(0, factorial() - 1);
        switch (random.nextInt(4)) {
            case 0: same(where + "product " + a + " " + b, x.product(a, b), y.product(a, b)); break;
            case 1: same(where + "inverse " + a, x.inverse(a), y.inverse(a)); break;
            case 2: same(where + "told " + a + " " + what, x.told(a, what), y.told(a, what)); break;
            default: same(where + "ranked " + rank, x.ranked(rank), y.ranked(rank)); break;
        }
    }

    private void methods(String where) {
        int method = number(0, 3), what = number(0, 1), rule = number(0, 3), row = row();
        switch (random.nextInt(5)) {
            case 0: same(where + "about", x.about(method, what), y.about(method, what)); break;
            case 1: same(where + "change " + row, x.change(method, rule, row), y.change(method, rule, row)); break;
            case 2:
                int count = number(1, 8);
                long bytes = random.nextLong();
                if (random.nextInt(9) == 0) same(where + "feed", x.feed(count, bytes), y.feed(count, bytes));
                break;
            default: newMethod(where, new MethodTexts(random, n).text()); break;
        }
    }

    private void newMethod(String where, String text) {
        if (text.length() > 8 * (CALLS - calls - 1)) return;
        for (int from = 0; from < text.length(); from += 8) {
            int count = Math.min(8, text.length() - from);
            long bytes = random.nextLong();
            for (int i = count - 1; i >= 0; i--) bytes = bytes << 8 | text.charAt(from + i) & 255;
            same(where + "feed", x.feed(count, bytes), y.feed(count, bytes));
        }
        same(where + "method " + text, x.method(), y.method());
    }

    private void theRun(String where) {
        int method = number(0, 2), step = number(0, random.nextBoolean() ? 40 : 1999), steps = number(1, 60), what = number(0, 3);
        int times = number(1, random.nextBoolean() ? 2 : 9), side = number(0, 1), on = number(0, 1);
        if (random.nextInt(8) == 0) steps = 500;
        switch (random.nextInt(7)) {
            case 0: same(where + "ring", x.ring(method), y.ring(method)); break;
            case 1: same(where + "call " + step + " " + on, x.call(step, on), y.call(step, on)); break;
            case 2:
            case 3: same(where + "go " + steps, x.go(steps), y.go(steps)); break;
            case 4: same(where + "rowAt " + step, x.rowAt(step), y.rowAt(step)); break;
            case 5: same(where + "run " + what, x.run(what), y.run(what)); break;
            default: same(where + "truth " + times + " " + side, x.truth(times, side), y.truth(times, side)); break;
        }
    }

    private void groups(String where) {
        int row = row(), a = number(0, 80), b = a + number(0, 65), k = number(0, 30);
        switch (random.nextInt(7)) {
            case 0:
            case 1: same(where + "generator " + row, x.generator(row), y.generator(row)); break;
            case 2: if (random.nextInt(3) == 0) same(where + "free", x.free(), y.free()); break;
            case 3: same(where + "group", x.group(), y.group()); break;
            case 4: same(where + "coset " + row, x.coset(row), y.coset(row)); break;
            case 5: same(where + "heads " + a + " " + b, x.heads(a, b), y.heads(a, b)); break;
            default: same(where + "head " + k, x.head(k), y.head(k)); break;
        }
    }

    private void band(String where) {
        int bell = number(1, n), kind = number(0, 4), skill = number(0, 20), seed = random.nextInt();
        int from = number(0, 60), count = number(1, random.nextBoolean() ? 5 : 60), k = number(0, 30), what = number(0, 3);
        if (random.nextBoolean()) kind = 2;
        if (random.nextInt(3) == 0) skill = 0;
        switch (random.nextInt(7)) {
            case 0:
            case 1: same(where + "ringer", x.ringer(bell, kind, skill), y.ringer(bell, kind, skill)); break;
            case 2: same(where + "band " + seed + " " + from + " " + count, x.band(seed, from, count), y.band(seed, from, count)); break;
            case 3:
            case 4: same(where + "blow " + k + " " + bell, x.blow(k, bell), y.blow(k, bell)); break;
            case 5: same(where + "ringing " + what, x.ringing(what), y.ringing(what)); break;
            default: same(where + "slips " + bell, x.slips(bell), y.slips(bell)); break;
        }
    }

    private long time() {
        int way = random.nextInt(10);
        if (timesAre == 0 && way < 3) return TIMES[random.nextInt(TIMES.length)];
        if (timesAre == 1) return random.nextLong();
        if (timesAre == 2) return Double.doubleToLongBits(random.nextInt(40) / 8.0);
        if (timesAre == 3) return Double.doubleToLongBits(calls * 0.2 + random.nextGaussian() * 0.05);
        double size = random.nextBoolean() ? 1e300 : random.nextBoolean() ? 4e-323 : 1.0;
        return Double.doubleToLongBits((random.nextDouble() - 0.5) * size);
    }

    private void recording(String where) {
        int bell = number(1, n), i = number(0, 20), what = number(0, 3), k = number(0, 5);
        long time = time();
        switch (random.nextInt(9)) {
            case 0:
            case 1:
            case 2: same(where + "note " + bell + " " + time, x.note(bell, time), y.note(bell, time)); break;
            case 3: if (random.nextInt(20) == 0) same(where + "wipe", x.wipe(), y.wipe()); break;
            case 4: if (random.nextInt(4) == 0) same(where + "listen", x.listen(), y.listen()); break;
            case 5: same(where + "inOrder " + i + " " + what, x.inOrder(i, what), y.inOrder(i, what)); break;
            case 6: same(where + "heard " + k, x.heard(k), y.heard(k)); break;
            case 7: same(where + "line " + what, x.line(what), y.line(what)); break;
            default: same(where + "along " + i + " " + what, x.along(i, what), y.along(i, what)); break;
        }
    }

    private void shelf(String where) {
        int a = number(0, 3), b = number(0, 3), sort = number(0, 4), size = number(0, random.nextBoolean() ? 6 : 64);
        int i = number(0, 8), j = number(0, 8), count = number(0, 8), from = number(0, 50);
        if (random.nextBoolean()) sort = 3 + random.nextInt(2);
        switch (random.nextInt(8)) {
            case 0: same(where + "board " + b + " " + sort, x.board(b, sort, size), y.board(b, sort, size)); break;
            case 1: if (random.nextInt(5) == 0) same(where + "clear " + b, x.clear(b), y.clear(b)); break;
            case 2: same(where + "items " + b, x.items(b), y.items(b)); break;
            case 3:
            case 4: same(where + "fill " + b + " " + from + " " + count, x.fill(b, from, count), y.fill(b, from, count)); break;
            case 5: same(where + "copy " + a + " " + i + " " + b + " " + j + " " + count, x.copy(a, i, b, j, count), y.copy(a, i, b, j, count)); break;
            default: same(where + "item " + b + " " + sort + " " + i, x.item(b, sort, i), y.item(b, sort, i)); break;
        }
    }
}
