/** Promises 1 to 6: a new object, stage, product, inverse, told, ranked. */
final class RowsTest {
    private static final int BAD = -1, NO = -2, NULL = -4, NONE = -9;

    public static void main(String[] args) {
        newObject();
        stage();
        stageMakesAllNew();
        product();
        inverse();
        told();
        ranked();
        allRowsOfFive();
        Check.finish();
    }

    private static void newObject() {
        BelfryHouse x = new BelfryHouse();
        Check.due("product on six bells", x.product(123456, 654321), 654321);
        Check.due("no seventh bell", x.slips(7), BAD);
        isEmpty(x, 6);
    }

    private static void isEmpty(BelfryHouse x, int n) {
        Check.due("no method", x.about(0, 0), BAD);
        Check.due("no change", x.change(0, 0, x.ranked(0)), BAD);
        Check.due("no ring", x.ring(0), BAD);
        Check.due("no run", x.run(0), NO);
        Check.due("no call", x.call(0, 1), NO);
        Check.due("no go", x.go(1), NO);
        Check.due("no truth", x.truth(1, 0), NO);
        Check.due("no row", x.rowAt(0), BAD);
        Check.due("no heads", x.heads(0, 0), BAD);
        Check.due("no head", x.head(0), BAD);
        Check.due("the group of no generators", x.group(), n > 6 ? NO : 1);
        Check.due("no generators", x.free(), 0);
        Check.due("no band without a run", x.band(0, 0, 1), BAD);
        for (int what = 0; what < 3; what++) Check.due("no ringing", x.ringing(what), 0);
        Check.due("nobody lost", x.ringing(3), NONE);
        Check.due("no blow", x.blow(0, 1), -1000000);
        for (int bell = 1; bell <= n; bell++) Check.due("no slips", x.slips(bell), 0);
        Check.due("nothing to hear", x.listen(), 0);
        Check.due("no blows", x.wipe(), 0);
        Check.due("nothing in order", x.inOrder(0, 0), BAD);
        Check.due("nothing heard", x.heard(0), BAD);
        for (int b = 0; b < 8; b++) Check.due("nothing on a board", x.items(b), NULL);
    }

    private static void stage() {
        BelfryHouse x = new BelfryHouse();
        Check.due("stage 2", x.stage(2), BAD);
        Check.due("stage 9", x.stage(9), BAD);
        Check.due("stage below", x.stage(Integer.MIN_VALUE), BAD);
        Check.due("stage far above", x.stage(Integer.MAX_VALUE), BAD);
        Check.due("a refused stage changes nothing", x.stage(3), 6);
        Check.due("stage again", x.stage(3), 3);
        Check.due("stage 8", x.stage(8), 3);
        Check.due("eight bells", x.product(12345678, 87654321), 87654321);
        Check.due("six are too few", x.product(123456, 123456), BAD);
        Check.due("stage 6", x.stage(6), 8);
    }

    /** Fills all there is to fill, so that stage() has something of each to take away. */
    private static BelfryHouse full() {
        BelfryHouse x = Check.rung(6, "when called cross; hold;", 10);
        x.call(10, 1);
        x.go(1);
        x.generator(213456);
        x.heads(0, 10);
        for (int bell = 1; bell <= 6; bell++) x.ringer(bell, 2, 0);
        for (int seed = 0; seed < 20; seed++) x.band(seed, 0, 10);
        x.listen();
        x.note(1, Double.doubleToLongBits(1.5));
        for (int b = 0; b < 8; b++) x.board(b, b % 5, 4);
        return x;
    }

    private static void stageMakesAllNew() {
        for (int n = 3; n <= 8; n++) {
            BelfryHouse x = full();
            Check.due("stage", x.stage(n), 6);
            isEmpty(x, n);
            Check.due("line is of no blows", x.line(2), 0);
            BelfryHouse y = Check.rung(n, "cross;", 30);
            Check.due("the tape was used up", Check.method(x, "cross;"), 0);
            x.ring(0);
            x.go(30);
            Check.due("the same run", x.rowAt(30), y.rowAt(30));
            Check.due("the same ringing", x.band(7, 0, 20), y.band(7, 0, 20));
            for (int bell = 1; bell <= n; bell++) Check.due("the first ringer", x.blow(9, bell), y.blow(9, bell));
        }
        BelfryHouse x = new BelfryHouse();
        Check.feed(x, "cros");
        Check.due("stage keeps the tape", x.stage(4), 6);
        Check.due("what it holds", x.feed(2, 's' | ';' << 8), 6);
        Check.due("what it says", x.method(), 0);
        Check.due("on the new bells", x.change(0, 0, 1234), 2143);
    }

    private static void product() {
        BelfryHouse x = new BelfryHouse();
        Check.due("product", x.product(214365, 132546), 241635);
        Check.due("product the other way", x.product(132546, 214365), 315264);
        Check.due("rounds ahead", x.product(123456, 365214), 365214);
        Check.due("rounds behind", x.product(365214, 123456), 365214);
        x.stage(3);
        Check.due("of three", x.product(231, 213), 321);
        Check.due("of three the other way", x.product(213, 231), 132);
        x.stage(8);
        Check.due("of eight", x.product(23456781, 23456781), 34567812);
        noRows(new BelfryHouse());
    }

    private static void noRows(BelfryHouse x) {
        int[] none = {0, -1, 1, 12345, 1234567, 123455, 123450, 123457, 23456, 1123456, -123456, 1000123456,
            1234569, 999999, Integer.MAX_VALUE, Integer.MIN_VALUE};
        for (int number : none) {
            Check.due("product of " + number, x.product(number, 123456), BAD);
            Check.due("product with " + number, x.product(123456, number), BAD);
            Check.due("inverse of " + number, x.inverse(number), BAD);
            for (int what = 0; what < 3; what++) Check.due("told of " + number, x.told(number, what), BAD);
            Check.due("generator " + number, x.generator(number), BAD);
            Check.due("coset of " + number, x.coset(number), BAD);
        }
        Check.due("none came in", x.free(), 0);
    }

    private static void inverse() {
        BelfryHouse x = new BelfryHouse();
        Check.due("inverse", x.inverse(234561), 612345);
        Check.due("inverse of a swap", x.inverse(214365), 214365);
        Check.due("inverse of rounds", x.inverse(123456), 123456);
        x.stage(8);
        Check.due("inverse of eight", x.inverse(31425687), 24135687);
    }

    private static void told() {
        BelfryHouse x = new BelfryHouse();
        Check.due("order of rounds", x.told(123456, 0), 1);
        Check.due("order of a swap", x.told(213456, 0), 2);
        Check.due("order of a round of six", x.told(234561, 0), 6);
        Check.due("order of two rounds", x.told(231546, 0), 6);
        Check.due("rank of rounds", x.told(123456, 1), 0);
        Check.due("rank of the next", x.told(123465, 1), 1);
        Check.due("rank of the last", x.told(654321, 1), 719);
        Check.due("rank", x.told(213456, 1), 120);
        Check.due("rounds are even", x.told(123456, 2), 1);
        Check.due("a swap is not", x.told(123465, 2), 0);
        Check.due("fifteen pairs", x.told(654321, 2), 0);
        Check.due("two swaps are", x.told(213465, 2), 1);
        Check.due("told what below", x.told(123456, -1), BAD);
        Check.due("told what above", x.told(123456, 3), BAD);
        x.stage(8);
        Check.due("the greatest order", x.told(23154786, 0), 6);
        Check.due("fifteen", x.told(23156784, 0), 15);
        Check.due("the last of eight", x.told(87654321, 1), 40319);
        Check.due("seven is odd, all turned", x.told(87654321, 2), 1);
    }

    private static void ranked() {
        int[] howMany = {6, 24, 120, 720, 5040, 40320};
        int[] first = {123, 1234, 12345, 123456, 1234567, 12345678};
        int[] last = {321, 4321, 54321, 654321, 7654321, 87654321};
        for (int n = 3; n <= 8; n++) {
            BelfryHouse x = new BelfryHouse();
            x.stage(n);
            Check.due("ranked below", x.ranked(-1), BAD);
            Check.due("ranked above", x.ranked(howMany[n - 3]), BAD);
            Check.due("ranked far above", x.ranked(Integer.MAX_VALUE), BAD);
            Check.due("ranked far below", x.ranked(Integer.MIN_VALUE), BAD);
            Check.due("the last", x.ranked(howMany[n - 3] - 1), last[n - 3]);
            Check.due("the first", x.ranked(0), first[n - 3]);
        }
        BelfryHouse x = new BelfryHouse();
        Check.due("ranked", x.ranked(120), 213456);
        Check.due("ranked", x.ranked(121), 213465);
    }

    /** Rows count up as numbers; each is held against what the words of the terms say, the slow way. */
    private static void allRowsOfFive() {
        BelfryHouse x = new BelfryHouse();
        x.stage(5);
        int rank = 0;
        for (int number = 0; number < 60000; number++) {
            if (!isRow(number)) {
                if (number % 97 == 0) Check.due("no row", x.told(number, 1), BAD);
                continue;
            }
            Check.due("rank of " + number, x.told(number, 1), rank);
            Check.due("of rank " + rank, x.ranked(rank), number);
            Check.due("product with its inverse", x.product(number, x.inverse(number)), 12345);
            Check.due("product the other way", x.product(x.inverse(number), number), 12345);
            Check.due("even", x.told(number, 2), pairsTurned(number) % 2 == 0 ? 1 : 0);
            Check.due("order", x.told(number, 0), timesToRounds(x, number));
            rank++;
        }
        Check.due("all rows", rank, 120);
    }

    private static boolean isRow(int number) {
        String digits = Integer.toString(number);
        if (digits.length() != 5) return false;
        for (char bell = '1'; bell <= '5'; bell++) {
            if (digits.indexOf(bell) < 0) return false;
        }
        return true;
    }

    private static int pairsTurned(int number) {
        String digits = Integer.toString(number);
        int pairs = 0;
        for (int i = 0; i < digits.length(); i++) {
            for (int j = i + 1; j < digits.length(); j++) {
                if (digits.charAt(i) > digits.charAt(j)) pairs++;
            }
        }
        return pairs;
    }

    private static int timesToRounds(BelfryHouse x, int row) {
        int times = 1;
        for (int power = row; power != 12345; power = x.product(power, row)) times++;
        return times;
    }
}
