/** Promises 17 to 22: generator, free, group, coset, heads, head. */
final class GroupsTest {
    private static final int BAD = -1, NO = -2, FULL = -3;

    public static void main(String[] args) {
        generator();
        aboveSix();
        free();
        group();
        coset();
        cosetsOfAll();
        heads();
        refusedHeads();
        head();
        headsOfMany();
        Check.finish();
    }

    private static void generator() {
        BelfryHouse x = new BelfryHouse();
        for (int i = 1; i <= 6; i++) Check.due("generator", x.generator(214365), i);
        Check.due("the seventh", x.generator(214365), FULL);
        Check.due("BAD is ahead of FULL", x.generator(214366), BAD);
        Check.due("like ones count", x.group(), 2);
        Check.due("six", x.free(), 6);
        Check.due("no row", x.generator(12345), BAD);
        Check.due("it did not come", x.free(), 0);
    }

    private static void aboveSix() {
        BelfryHouse x = new BelfryHouse();
        x.stage(7);
        Check.due("generator", x.generator(1234567), NO);
        Check.due("BAD is ahead of NO", x.generator(123456), BAD);
        Check.due("group", x.group(), NO);
        Check.due("coset", x.coset(1234567), NO);
        Check.due("BAD is ahead of NO", x.coset(7654322), BAD);
        Check.due("free", x.free(), 0);
        x.stage(8);
        Check.due("generator", x.generator(87654321), NO);
        Check.due("group", x.group(), NO);
        Check.due("coset", x.coset(87654321), NO);
    }

    private static void free() {
        BelfryHouse x = new BelfryHouse();
        Check.due("none", x.free(), 0);
        x.generator(213456);
        x.generator(123465);
        Check.due("four rows", x.group(), 4);
        Check.due("two", x.free(), 2);
        Check.due("rounds alone", x.group(), 1);
        Check.due("not in it any more", x.coset(213456), 120);
        Check.due("none", x.free(), 0);
        Check.due("the first again", x.generator(213456), 1);
    }

    private static void group() {
        BelfryHouse x = new BelfryHouse();
        Check.due("rounds alone", x.group(), 1);
        x.generator(123456);
        Check.due("rounds add nothing", x.group(), 1);
        x.generator(234561);
        Check.due("a round of six", x.group(), 6);
        x.generator(345612);
        Check.due("in it already", x.group(), 6);
        x.generator(654321);
        Check.due("twelve", x.group(), 12);
        x.generator(213456);
        Check.due("all", x.group(), 720);
        x.generator(123465);
        Check.due("all still", x.group(), 720);
        x.free();
        x.generator(231456);
        x.generator(134256);
        x.generator(124536);
        x.generator(123564);
        Check.due("the even ones", x.group(), 360);
        int[] all = {6, 24, 120, 720}, turned = {312, 4123, 51234, 612345}, swap = {132, 1243, 12354, 123465};
        for (int n = 3; n <= 6; n++) {
            x.stage(n);
            x.generator(turned[n - 3]);
            Check.due("a round of " + n, x.group(), n);
            x.generator(swap[n - 3]);
            Check.due("all of " + n, x.group(), all[n - 3]);
        }
    }

    private static void coset() {
        BelfryHouse x = new BelfryHouse();
        Check.due("rounds are in it", x.coset(123456), -10);
        Check.due("any other is alone", x.coset(654321), 719);
        Check.due("the second rank", x.coset(123465), 1);
        x.generator(213456);
        Check.due("in the group", x.coset(213456), -10);
        // g r has the bells 1 and 2 change, not the places
        Check.due("314256 or 324156", x.coset(324156), x.told(314256, 1));
        Check.due("by bells", x.coset(314256), x.told(314256, 1));
        Check.due("no row", x.coset(324157), BAD);
        Check.due("it stands", x.group(), 2);
    }

    private static void cosetsOfAll() {
        BelfryHouse x = new BelfryHouse();
        x.stage(4);
        x.generator(2341);
        x.generator(4321);
        Check.due("eight", x.group(), 8);
        int inGroup = 0;
        boolean[] met = new boolean[24];
        for (int rank = 0; rank < 24; rank++) {
            int coset = x.coset(x.ranked(rank));
            if (coset == -10) inGroup++;
            else met[coset] = true;
            if (coset >= 0) Check.due("the least is its own coset", x.coset(x.ranked(coset)), coset);
        }
        Check.due("eight are in it", inGroup, 8);
        int others = 0;
        for (boolean is : met) others += is ? 1 : 0;
        Check.due("two other cosets", others, 2);
    }

    private static void heads() {
        BelfryHouse x = Check.rung(6, "jump 1 6;", 20);
        Check.due("one row", x.heads(3, 3), 1);
        Check.due("rounds", x.head(0), 123456);
        Check.due("two rows", x.heads(0, 1), 3);
        Check.due("rounds", x.head(0), 123456);
        Check.due("there", x.head(1), 234561);
        Check.due("and back", x.head(2), 612345);
        Check.due("the whole round", x.heads(0, 5), 6);
        Check.due("like rows", x.heads(0, 20), 6);
        Check.due("one like another", x.heads(2, 8), 6);
        // rows 0, 1, 2: 123456, 214365, 241635
        BelfryHouse y = Check.rung(6, "when every 2 0 cross; places 16;", 2);
        int[] due = {123456, 214365, 241635, 315264, 426153};
        Check.due("three rows", y.heads(0, 2), due.length);
        for (int k = 0; k < due.length; k++) Check.due("head " + k, y.head(k), due[k]);
    }

    private static void refusedHeads() {
        BelfryHouse x = new BelfryHouse();
        Check.due("no run", x.heads(0, 0), BAD);
        x = Check.rung(6, "jump 1 6;", 100);
        Check.due("sixty", x.heads(41, 100), 6);
        Check.due("sixty one", x.heads(40, 100), BAD);
        Check.due("far too many", x.heads(0, Integer.MAX_VALUE), BAD);
        Check.due("all there are", x.heads(Integer.MIN_VALUE, Integer.MAX_VALUE), BAD);
        Check.due("b below a", x.heads(5, 4), BAD);
        Check.due("below rows", x.heads(-1, 4), BAD);
        Check.due("behind rows", x.heads(90, 101), BAD);
        Check.due("far behind rows", x.heads(Integer.MAX_VALUE, Integer.MAX_VALUE), BAD);
        Check.due("the last", x.heads(100, 100), 1);
        x.heads(0, 101);
        Check.due("a refused call leaves the latest", x.head(0), 123456);
        Check.due("of one", x.head(1), BAD);
    }

    private static void head() {
        BelfryHouse x = Check.rung(6, "cross;", 1);
        Check.due("none yet", x.head(0), BAD);
        x.heads(0, 1);
        Check.due("head -1", x.head(-1), BAD);
        Check.due("head 1", x.head(1), 214365);
        Check.due("head 2", x.head(2), BAD);
        Check.due("head far", x.head(Integer.MAX_VALUE), BAD);
        x.ring(0);
        Check.due("a new run leaves them", x.head(1), 214365);
        x.stage(6);
        Check.due("stage does not", x.head(0), BAD);
    }

    private static void headsOfMany() {
        BelfryHouse x = Check.rung(8, "when every 7 0 (jump 1 8, jump 3 5); when every 5 1 turn 2 5; when every 3 2 cross; "
            + "when every 11 3 jump 2 4; (places 18, jump 2 7);", 59);
        int count = x.heads(0, 59);
        Check.holds("many heads", count == 2100);
        for (int k = 1; k < count; k++) Check.holds("they rise at " + k, x.head(k - 1) < x.head(k));
        java.util.TreeSet<Integer> due = new java.util.TreeSet<>();
        for (int i = 0; i < 60; i++) {
            for (int j = 0; j < 60; j++) due.add(x.product(x.rowAt(j), x.inverse(x.rowAt(i))));
        }
        Check.due("so many", count, due.size());
        int k = 0;
        for (int head : due) Check.due("head " + k, x.head(k++), head);
    }
}
