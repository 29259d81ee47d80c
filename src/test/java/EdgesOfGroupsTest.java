import java.util.TreeSet;

/** Section 4 of the terms and promises 17 to 22: a test for each sentence that names a boundary. */
final class EdgesOfGroupsTest {
    private static final int BAD = -1, NO = -2, FULL = -3;
    private static final int[] HOW_MANY = {1, 1, 2, 6, 24, 120, 720, 5040, 40320};
    private static final String MANY = "when every 7 0 (jump 1 8, jump 3 5); when every 5 1 turn 2 5; when every 3 2 cross; "
        + "when every 11 3 jump 2 4; (places 18, jump 2 7);";

    public static void main(String[] args) {
        upToSix();
        sixAtMost();
        anyOfThem();
        roundsToo();
        coset();
        cosetOfTheGroupItself();
        sixtyAtMost();
        allHeads();
        oneRow();
        byRank();
        headsForAnyNumber();
        generator();
        generatorRefuses();
        free();
        group();
        cosetRefuses();
        heads();
        headsRefuses();
        head();
        latestHeads();
        headRefuses();
        Check.finish();
    }

    private static BelfryHouse on(int n) {
        BelfryHouse x = new BelfryHouse();
        x.stage(n);
        return x;
    }

    private static void upToSix() {
        Check.sentence("GROUPS, for n up to 6");
        for (int n = 3; n <= 8; n++) {
            BelfryHouse x = on(n);
            boolean are = n <= 6;
            Check.due("generator on " + n, x.generator(x.ranked(1)), are ? 1 : NO);
            Check.due("group on " + n, x.group(), are ? 2 : NO);
            Check.due("coset on " + n, x.coset(x.ranked(1)), are ? -10 : NO);
            Check.due("free on " + n, x.free(), are ? 1 : 0);
        }
    }

    private static void sixAtMost() {
        Check.sentence("(6 at most; any of them, any number of times; ROUNDS, too)");
        BelfryHouse x = new BelfryHouse();
        int[] swaps = {213456, 132456, 124356, 123546, 123465, 654321};
        int[] sizes = {2, 6, 24, 120, 720, 720};
        for (int i = 0; i < 6; i++) {
            Check.due("GENERATOR " + i, x.generator(swaps[i]), i + 1);
            Check.due("the group with it", x.group(), sizes[i]);
        }
        Check.due("the seventh", x.generator(234561), FULL);
        Check.due("the seventh, one of them", x.generator(213456), FULL);
        Check.due("six", x.free(), 6);
        for (int i = 1; i <= 6; i++) Check.due("ROUNDS count, like ones count", x.generator(123456), i);
        Check.due("the seventh", x.generator(213456), FULL);
        Check.due("it is not in", x.group(), 1);
        x.free();
        for (int i = 1; i <= 5; i++) Check.due("five that add nothing", x.generator(123456), i);
        Check.due("the sixth", x.generator(213456), 6);
        Check.due("it is in", x.group(), 2);
    }

    /** The group by multiplying all with all, until nothing comes. */
    private static TreeSet<Integer> closed(BelfryHouse x, int... generators) {
        TreeSet<Integer> all = new TreeSet<>();
        all.add(x.ranked(0));
        for (int size = 0; size != all.size();) {
            size = all.size();
            for (int one : new TreeSet<>(all)) {
                for (int g : generators) all.add(x.product(one, g));
            }
        }
        return all;
    }

    private static void anyOfThem() {
        Check.sentence("all ROWS that are PRODUCTS of some GENERATORS");
        int[][] sets = {{2341}, {2143, 3412}, {2341, 4321}, {2314}, {2314, 1342}, {2134, 1243}, {1324, 4231}, {3412}, {2341, 2134}};
        int[] sizes = {4, 4, 8, 3, 12, 4, 4, 2, 24};
        for (int i = 0; i < sets.length; i++) {
            BelfryHouse x = on(4);
            for (int row : sets[i]) x.generator(row);
            Check.due("group " + i, x.group(), sizes[i]);
            TreeSet<Integer> members = closed(on(4), sets[i]);
            Check.due("group " + i + " by hand", members.size(), sizes[i]);
            for (int rank = 0; rank < 24; rank++) {
                int row = x.ranked(rank);
                Check.due("group " + i + " and " + row, x.coset(row) == -10 ? 1 : 0, members.contains(row) ? 1 : 0);
            }
        }
    }

    private static void roundsToo() {
        Check.sentence("(6 at most; any of them, any number of times; ROUNDS, too)");
        for (int n = 3; n <= 6; n++) {
            BelfryHouse x = on(n);
            Check.due("of no GENERATORS", x.group(), 1);
            Check.due("ROUNDS are in it", x.coset(x.ranked(0)), -10);
            x.generator(x.ranked(HOW_MANY[n] - 1));
            Check.due("of one that is its own inverse", x.group(), 2);
            Check.due("ROUNDS are in it", x.coset(x.ranked(0)), -10);
        }
    }

    private static void coset() {
        Check.sentence("THE COSET of a ROW: the least RANK of a PRODUCT g r, g in the group.");
        BelfryHouse x = new BelfryHouse();
        for (int rank : new int[] {1, 2, 119, 120, 718, 719}) Check.due("alone", x.coset(x.ranked(rank)), rank);
        x.generator(213456);
        // g r has the bells 1 and 2 change, wherever they are; r g would have the PLACES 1 and 2 change
        Check.due("bells 1 and 2 at the end", x.coset(345621), x.told(345612, 1));
        Check.due("in order already", x.coset(345612), x.told(345612, 1));
        Check.due("places 1 and 2 do not change", x.coset(435612), x.told(435612, 1));
        x.generator(134562);
        Check.due("all", x.group(), 720);
        Check.due("all are in it", x.coset(654321), -10);
        BelfryHouse y = on(4);
        int[] generators = {2341};
        y.generator(2341);
        for (int rank = 0; rank < 24; rank++) {
            int row = y.ranked(rank), least = rank;
            for (int g : closed(on(4), generators)) least = Math.min(least, y.told(y.product(g, row), 1));
            Check.due("coset of " + row, y.coset(row), least == 0 ? -10 : least);
        }
    }

    private static void cosetOfTheGroupItself() {
        Check.sentence("THE COSET; -10: the ROW is in the group itself. BAD. NO.");
        BelfryHouse x = new BelfryHouse();
        Check.due("ROUNDS", x.coset(123456), -10);
        Check.due("no other", x.coset(123465), 1);
        x.generator(123465);
        Check.due("a GENERATOR", x.coset(123465), -10);
        Check.due("ROUNDS", x.coset(123456), -10);
        Check.due("no other", x.coset(123546), 2);
        x.free();
        Check.due("no more", x.coset(123465), 1);
    }

    private static void sixtyAtMost() {
        Check.sentence("HEADS (for any n) of ROWS a to b of THE RUN (60 at most)");
        BelfryHouse x = Check.rung(6, "jump 1 6;", 70);
        Check.due("sixty", x.heads(0, 59), 6);
        Check.due("sixty", x.heads(11, 70), 6);
        Check.due("sixty one", x.heads(0, 60), BAD);
        Check.due("sixty one", x.heads(10, 70), BAD);
        x = Check.rung(8, MANY, 100);
        Check.holds("sixty, most of whose heads differ", x.heads(0, 59) > 2000);
        Check.due("sixty one", x.heads(40, 100), BAD);
    }

    private static TreeSet<Integer> headsOf(BelfryHouse x, int a, int b) {
        TreeSet<Integer> all = new TreeSet<>();
        for (int i = a; i <= b; i++) {
            for (int j = a; j <= b; j++) all.add(x.product(x.rowAt(j), x.inverse(x.rowAt(i))));
        }
        return all;
    }

    private static void allHeads() {
        Check.sentence("all h for which a PRODUCT h x is y, x and y being two of these (or one)");
        for (int[] ab : new int[][] {{0, 1}, {3, 6}, {5, 8}, {19, 20}}) {
            BelfryHouse x = Check.rung(6, "when every 2 0 cross; (places 16, jump 1 3);", 20);
            TreeSet<Integer> due = headsOf(x, ab[0], ab[1]);
            Check.due("heads " + ab[0] + " " + ab[1], x.heads(ab[0], ab[1]), due.size());
            int k = 0;
            for (int head : due) Check.due("head " + k, x.head(k++), head);
            for (int i = ab[0]; i < ab[1]; i++) {
                boolean there = false;
                for (k = 0; k < due.size(); k++) there |= x.product(x.head(k), x.rowAt(i)) == x.rowAt(i + 1);
                Check.holds("a head makes ROW " + (i + 1) + " of ROW " + i, there);
            }
        }
    }

    private static void oneRow() {
        Check.sentence("x and y being two of these (or one)");
        BelfryHouse x = Check.rung(6, "jump 1 6;", 7);
        for (int k = 0; k <= 7; k++) {
            Check.due("one ROW", x.heads(k, k), 1);
            Check.due("ROUNDS", x.head(0), 123456);
            Check.due("no other", x.head(1), BAD);
        }
        Check.due("two ROWS that are the same", Check.rung(6, "hold;", 3).heads(1, 2), 1);
    }

    private static void byRank() {
        Check.sentence("by RANK.");
        BelfryHouse x = Check.rung(8, MANY, 40);
        int count = x.heads(0, 15);
        Check.holds("there are many", count > 100);
        Check.due("ROUNDS first", x.head(0), 12345678);
        for (int k = 1; k < 100; k++) Check.holds("head " + k, x.told(x.head(k), 1) > x.told(x.head(k - 1), 1));
        x = Check.rung(8, "turn 1 8;", 1);
        Check.due("the first and the last RANK of all", x.heads(0, 1), 2);
        Check.due("the last", x.head(1), 87654321);
    }

    private static void headsForAnyNumber() {
        Check.sentence("HEADS (for any n)");
        for (int n = 3; n <= 8; n++) {
            BelfryHouse x = Check.rung(n, "jump 1 " + n + ";", 20);
            Check.due("a round of " + n, x.heads(0, 20), n);
            Check.due("ROUNDS", x.head(0), Everything.rounds(n));
            Check.due("the step", x.heads(0, 1), 3);
            Check.due("it", x.head(1), x.rowAt(1));
            Check.due("and back", x.head(2), x.inverse(x.rowAt(1)));
        }
    }

    private static void generator() {
        Check.sentence("A GENERATOR: how many there are.");
        BelfryHouse x = new BelfryHouse();
        Check.due("one", x.generator(654321), 1);
        Check.due("two", x.generator(654321), 2);
        x.free();
        Check.due("one again", x.generator(123456), 1);
    }

    private static void generatorRefuses() {
        Check.sentence("BAD: no ROW. NO: n is above 6. FULL.");
        BelfryHouse x = new BelfryHouse();
        for (int row : new int[] {0, 123455, 12345, 1234567, -123456}) Check.due("no ROW " + row, x.generator(row), BAD);
        for (int i = 0; i < 6; i++) x.generator(123456);
        Check.due("FULL", x.generator(123456), FULL);
        Check.due("NO", on(7).generator(1234567), NO);
        Check.due("NO", on(8).generator(12345678), NO);
        Check.due("six are well", on(6).generator(123456), 1);
    }

    private static void free() {
        Check.sentence("No GENERATORS: how many there were.");
        BelfryHouse x = new BelfryHouse();
        Check.due("none", x.free(), 0);
        for (int i = 0; i < 6; i++) x.generator(i < 3 ? 234561 : 213456);
        Check.due("all", x.group(), 720);
        Check.due("six", x.free(), 6);
        Check.due("none", x.free(), 0);
        Check.due("ROUNDS alone", x.group(), 1);
        x.generator(123465);
        Check.due("those before do not come again", x.group(), 2);
        Check.due("above six there are none", on(7).free(), 0);
    }

    private static void group() {
        Check.sentence("How many ROWS the group has. NO: n is above 6.");
        Check.due("one", on(6).group(), 1);
        Check.due("NO", on(7).group(), NO);
        Check.due("NO", on(8).group(), NO);
        for (int n = 3; n <= 6; n++) {
            BelfryHouse x = on(n);
            x.generator(x.ranked(HOW_MANY[n - 1]));
            int turned = 0;
            for (int bell = 2; bell <= n; bell++) turned = turned * 10 + bell;
            x.generator(turned * 10 + 1);
            Check.due("all ROWS", x.group(), HOW_MANY[n]);
        }
    }

    private static void cosetRefuses() {
        Check.sentence("THE COSET; -10: the ROW is in the group itself. BAD. NO.");
        BelfryHouse x = new BelfryHouse();
        for (int row : new int[] {0, 123455, 12345, 1234567, -123456}) Check.due("no ROW " + row, x.coset(row), BAD);
        Check.due("NO", on(7).coset(1234567), NO);
        Check.due("NO", on(8).coset(87654321), NO);
    }

    private static void heads() {
        Check.sentence("How many HEADS ROWS a to b have.");
        BelfryHouse x = Check.rung(6, "cross;", 3);
        Check.due("ROUNDS and one", x.heads(0, 3), 2);
        Check.due("the last one", x.heads(3, 3), 1);
        Check.due("the first one", x.heads(0, 0), 1);
    }

    private static void headsRefuses() {
        Check.sentence("BAD: no such ROWS, b is below a, more than 60.");
        Check.due("no RUN", new BelfryHouse().heads(0, 0), BAD);
        BelfryHouse x = Check.rung(6, "cross;", 65);
        Check.due("a -1", x.heads(-1, 3), BAD);
        Check.due("b behind the last", x.heads(60, 66), BAD);
        Check.due("a behind the last", x.heads(66, 66), BAD);
        Check.due("b below a", x.heads(4, 3), BAD);
        Check.due("b far below a", x.heads(60, 0), BAD);
        Check.due("61", x.heads(5, 65), BAD);
        Check.due("60", x.heads(6, 65), 2);
        x.ring(0);
        Check.due("those ROWS are no more", x.heads(0, 1), BAD);
        Check.due("ROW 0 is there", x.heads(0, 0), 1);
    }

    private static void head() {
        Check.sentence("The k-th HEAD of the latest heads()");
        BelfryHouse x = Check.rung(6, "turn 1 2;", 1);
        x.heads(0, 1);
        Check.due("from 0 on", x.head(0), 123456);
        Check.due("the last", x.head(1), 213456);
        x.heads(1, 1);
        Check.due("of the latest", x.head(1), BAD);
    }

    private static void latestHeads() {
        Check.sentence("of the latest heads() that was not refused, since stage(). BAD.");
        BelfryHouse x = Check.rung(6, "turn 1 2;", 1);
        x.heads(0, 1);
        Check.due("refused", x.heads(1, 0), BAD);
        Check.due("as it was", x.head(1), 213456);
        x.ring(0);
        Check.due("refused", x.heads(0, 1), BAD);
        Check.due("a RUN that is no more", x.head(1), 213456);
        x.generator(654321);
        x.free();
        Check.due("groups leave it", x.head(1), 213456);
        x.stage(6);
        Check.due("none since stage", x.head(0), BAD);
        Check.due("none since stage", x.head(1), BAD);
    }

    private static void headRefuses() {
        Check.sentence("of the latest heads() that was not refused, since stage(). BAD.");
        BelfryHouse x = Check.rung(6, "jump 1 6;", 6);
        Check.due("no heads() yet", x.head(0), BAD);
        Check.due("six", x.heads(0, 6), 6);
        Check.due("-1", x.head(-1), BAD);
        Check.due("5", x.head(5), 612345);
        Check.due("6", x.head(6), BAD);
    }
}
