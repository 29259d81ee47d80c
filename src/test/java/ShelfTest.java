/** Promises 35 to 40: board, clear, items, fill, copy, item. */
final class ShelfTest {
    private static final int BAD = -1, NULL = -4, SIZE = -5, INDEX = -6, CAST = -7, STORE = -8;

    public static void main(String[] args) {
        board();
        clear();
        items();
        fillOfSorts();
        fillFails();
        fillCalled();
        linesStay();
        copy();
        copyItself();
        copyFails();
        copyLines();
        item();
        Check.finish();
    }

    /** A run of 80 steps; those with an odd number are called. */
    private static BelfryHouse house() {
        BelfryHouse x = new BelfryHouse();
        Check.method(x, "when 1 at 6 (jump 1 5, jump 2 3); jump 1 6;");
        x.ring(0);
        for (int step = 1; step < 80; step += 2) x.call(step, 1);
        Check.due("go", x.go(80), 80);
        return x;
    }

    private static void board() {
        BelfryHouse x = new BelfryHouse();
        int[][] bad = {{-1, 0, 4}, {8, 0, 4}, {0, -1, 4}, {0, 5, 4}, {0, 0, 65}, {8, 0, -1}, {0, 5, -1}, {Integer.MAX_VALUE, 0, 1},
            {0, Integer.MIN_VALUE, 1}, {0, 0, Integer.MAX_VALUE}};
        for (int[] b : bad) Check.due("board " + b[0] + " " + b[1] + " " + b[2], x.board(b[0], b[1], b[2]), BAD);
        Check.due("size -1", x.board(0, 0, -1), SIZE);
        Check.due("size far below", x.board(0, 0, Integer.MIN_VALUE), SIZE);
        Check.due("it holds nothing yet", x.items(0), NULL);
        for (int sort = 0; sort < 5; sort++) {
            Check.due("board", x.board(sort, sort, 64), 0);
            Check.due("items", x.items(sort), 64);
            Check.due("the first item", x.item(sort, sort, 0), sort < 3 ? 0 : NULL);
            Check.due("the last item", x.item(sort, sort, 63), sort < 3 ? 0 : NULL);
        }
        Check.due("a board of none", x.board(7, 1, 0), 0);
        Check.due("has no item", x.item(7, 1, 0), INDEX);
        Check.due("a failure leaves it", x.board(4, 1, -1), SIZE);
        Check.due("as it was", x.items(4), 64);
        x = house();
        x.board(0, 1, 5);
        x.fill(0, 1, 5);
        Check.due("something", x.item(0, 1, 0), x.told(x.rowAt(1), 1));
        x.board(0, 1, 5);
        Check.due("a new array is empty", x.item(0, 1, 0), 0);
        x.board(0, 3, 5);
        Check.due("a new array is of nothing", x.item(0, 3, 0), NULL);
    }

    private static void clear() {
        BelfryHouse x = new BelfryHouse();
        Check.due("clear nothing", x.clear(0), 0);
        x.board(7, 0, 3);
        Check.due("clear", x.clear(7), 0);
        Check.due("nothing", x.items(7), NULL);
        Check.due("nothing to read", x.item(7, 0, 0), NULL);
        Check.due("no board -1", x.clear(-1), BAD);
        Check.due("no board 8", x.clear(8), BAD);
        Check.due("no board", x.clear(Integer.MIN_VALUE), BAD);
    }

    private static void items() {
        BelfryHouse x = new BelfryHouse();
        Check.due("no board 8", x.items(8), BAD);
        Check.due("no board -1", x.items(-1), BAD);
        Check.due("nothing", x.items(3), NULL);
        x.board(3, 2, 17);
        Check.due("items", x.items(3), 17);
    }

    private static void fillOfSorts() {
        BelfryHouse x = house();
        for (int sort = 0; sort < 4; sort++) {
            x.board(sort, sort, 8);
            Check.due("fill", x.fill(sort, 0, 6), 0);
        }
        for (int k = 0; k < 6; k++) {
            int row = x.rowAt(k), rank = x.told(row, 1);
            Check.due("a byte", x.item(0, 0, k), row / 100000);
            Check.due("an int", x.item(1, 1, k), rank);
            Check.due("a double", x.item(2, 2, k), Double.doubleToLongBits((double) rank / k));
            Check.due("a line", x.item(3, 3, k), row);
        }
        Check.due("of ROW 0 NaN", x.item(2, 2, 0), 0x7ff8000000000000L);
        for (int sort = 0; sort < 4; sort++) Check.due("not filled", x.item(sort, sort, 6), sort < 3 ? 0 : NULL);
        Check.due("from another row", x.fill(1, 70, 1), 0);
        Check.due("the first item", x.item(1, 1, 0), x.told(x.rowAt(70), 1));
        Check.due("the second as before", x.item(1, 1, 1), x.told(x.rowAt(1), 1));
        x.board(5, 2, 64);
        Check.due("all 64", x.fill(5, 17, 64), 0);
        for (int k = 0; k < 64; k++) {
            double due = (double) x.told(x.rowAt(17 + k), 1) / (17 + k);
            Check.due("a double", x.item(5, 2, k), Double.doubleToLongBits(due));
        }
    }

    private static void fillFails() {
        BelfryHouse x = house();
        x.board(0, 1, 4);
        int[][] bad = {{-1, 0, 1}, {8, 0, 1}, {0, 0, -1}, {0, 0, 65}, {0, -1, 1}, {0, 81, 1}, {0, 78, 4}, {0, Integer.MAX_VALUE, 2},
            {0, Integer.MIN_VALUE, 2}, {1, 81, 1}, {8, 0, 0}, {0, 0, Integer.MIN_VALUE}};
        for (int[] b : bad) Check.due("fill " + b[0] + " " + b[1] + " " + b[2], x.fill(b[0], b[1], b[2]), BAD);
        Check.due("nothing is filled", x.item(0, 1, 3), 0);
        Check.due("the last row", x.fill(0, 80, 1), 0);
        Check.due("the board holds nothing", x.fill(1, 0, 1), NULL);
        Check.due("with none to fill, too", x.fill(1, 0, 0), NULL);
        Check.due("none", x.fill(0, 0, 0), 0);
        Check.due("with n 0 no row is asked for", x.fill(0, -5, 0), 0);
        Check.due("nor one behind all", x.fill(0, Integer.MAX_VALUE, 0), 0);
        Check.due("more than there are items", x.fill(0, 1, 5), INDEX);
        for (int i = 0; i < 4; i++) Check.due("those ahead are filled", x.item(0, 1, i), x.told(x.rowAt(1 + i), 1));
        x.board(2, 1, 0);
        Check.due("no item", x.fill(2, 0, 1), INDEX);
        Check.due("none of none", x.fill(2, 0, 0), 0);
        BelfryHouse y = new BelfryHouse();
        y.board(0, 1, 4);
        Check.due("no run", y.fill(0, 0, 1), BAD);
        Check.due("no run, but none asked for", y.fill(0, 0, 0), 0);
    }

    private static void fillCalled() {
        BelfryHouse x = house();
        x.board(0, 4, 3);
        Check.due("row 2 was called", x.fill(0, 2, 1), 0);
        Check.due("it is there", x.item(0, 4, 0), x.rowAt(2));
        Check.due("row 3 was not", x.fill(0, 4, 2), STORE);
        Check.due("row 4 is there", x.item(0, 4, 0), x.rowAt(4));
        Check.due("row 5 is not", x.item(0, 4, 1), NULL);
        Check.due("row 0 is not called", x.fill(0, 0, 1), STORE);
        Check.due("INDEX is met ahead of STORE", fillOne(x), INDEX);
        Check.due("STORE ahead of a later INDEX", x.fill(0, 3, 9), STORE);
    }

    /** A board of one item, and two rows, of which the second is not called. */
    private static int fillOne(BelfryHouse x) {
        x.board(1, 4, 1);
        return x.fill(1, 6, 2);
    }

    private static void linesStay() {
        BelfryHouse x = house();
        x.board(0, 3, 4);
        x.fill(0, 2, 2);
        int second = x.rowAt(2), third = x.rowAt(3);
        x.call(1, 0);
        x.call(2, 1);
        x.board(1, 4, 4);
        Check.due("called when it was made", x.copy(0, 0, 1, 0, 1), 0);
        Check.due("not called then", x.copy(0, 1, 1, 1, 1), STORE);
        Check.due("nor is the row now", x.fill(1, 3, 1), STORE);
        Check.due("the row is a called one still", x.fill(1, 2, 1), 0);
        Check.method(x, "hold;");
        x.ring(1);
        Check.due("the line is as it was", x.item(0, 3, 0), second);
        Check.due("the line is as it was", x.item(0, 3, 1), third);
        Check.due("called still", x.copy(0, 0, 1, 3, 1), 0);
        Check.due("row 2 is no more", x.fill(0, 2, 1), BAD);
        x.go(3);
        Check.due("a new run has no called rows", x.fill(1, 2, 1), STORE);
    }

    private static void copy() {
        BelfryHouse x = house();
        for (int sort = 0; sort < 4; sort++) {
            x.board(0, sort, 6);
            x.board(1, sort, 10);
            x.fill(0, 1, 6);
            Check.due("copy", x.copy(0, 2, 1, 5, 3), 0);
            for (int i = 0; i < 3; i++) Check.due("copied", x.item(1, sort, 5 + i), x.item(0, sort, 2 + i));
            Check.due("not ahead", x.item(1, sort, 4), sort < 3 ? 0 : NULL);
            Check.due("nor behind", x.item(1, sort, 8), sort < 3 ? 0 : NULL);
            Check.due("all", x.copy(0, 0, 1, 4, 6), 0);
            Check.due("the last", x.item(1, sort, 9), x.item(0, sort, 5));
        }
    }

    private static void copyItself() {
        BelfryHouse x = house();
        for (int sort = 1; sort < 4; sort++) {
            x.board(0, sort, 8);
            x.fill(0, 1, 8);
            long[] before = new long[8];
            for (int i = 0; i < 8; i++) before[i] = x.item(0, sort, i);
            Check.due("up", x.copy(0, 0, 0, 2, 5), 0);
            for (int i = 0; i < 8; i++) Check.due("up " + i, x.item(0, sort, i), i < 2 || i > 6 ? before[i] : before[i - 2]);
            x.fill(0, 1, 8);
            Check.due("down", x.copy(0, 3, 0, 1, 5), 0);
            for (int i = 0; i < 8; i++) Check.due("down " + i, x.item(0, sort, i), i < 1 || i > 5 ? before[i] : before[i + 2]);
        }
    }

    private static void copyFails() {
        BelfryHouse x = house();
        x.board(0, 1, 4);
        x.board(1, 1, 6);
        x.board(2, 2, 4);
        x.board(3, 3, 4);
        Check.due("no board -1", x.copy(-1, 0, 0, 0, 1), BAD);
        Check.due("no board 8", x.copy(0, 0, 8, 0, 1), BAD);
        Check.due("BAD is ahead of NULL", x.copy(7, 0, 8, 0, 1), BAD);
        Check.due("from nothing", x.copy(7, 0, 0, 0, 1), NULL);
        Check.due("to nothing", x.copy(0, 0, 7, 0, 1), NULL);
        Check.due("none of nothing", x.copy(7, 0, 7, 0, 0), NULL);
        Check.due("NULL is ahead of INDEX", x.copy(0, 9, 7, 0, 1), NULL);
        Check.due("another sort", x.copy(0, 0, 2, 0, 1), STORE);
        Check.due("another sort", x.copy(3, 0, 0, 0, 0), STORE);
        Check.due("STORE is ahead of INDEX", x.copy(0, -1, 2, 0, 1), STORE);
        int[][] index = {{-1, 0, 1}, {0, -1, 1}, {0, 0, -1}, {0, 0, 5}, {4, 0, 1}, {5, 0, 0}, {0, 6, 1}, {0, 7, 0}, {1, 3, 4},
            {Integer.MAX_VALUE, 0, 2}, {0, Integer.MAX_VALUE, 2}, {0, 0, Integer.MAX_VALUE}, {2, 0, Integer.MAX_VALUE},
            {Integer.MIN_VALUE, 0, 1}, {0, 0, Integer.MIN_VALUE}};
        for (int[] i : index) Check.due("copy " + i[0] + " " + i[1] + " " + i[2], x.copy(0, i[0], 1, i[1], i[2]), INDEX);
        Check.due("none at the end", x.copy(0, 4, 1, 6, 0), 0);
        Check.due("up to the end", x.copy(0, 0, 1, 2, 4), 0);
        x.board(4, 4, 4);
        Check.due("INDEX is ahead of a line that is not called", fullCopy(x), INDEX);
    }

    private static int fullCopy(BelfryHouse x) {
        x.fill(3, 1, 4);
        return x.copy(3, 0, 4, 1, 4);
    }

    private static void copyLines() {
        BelfryHouse x = house();
        x.board(0, 3, 6);
        x.board(1, 4, 6);
        Check.due("nothing may come", x.copy(0, 0, 1, 0, 6), 0);
        x.fill(0, 2, 1);
        Check.due("a called line may", x.copy(0, 0, 1, 3, 2), 0);
        Check.due("it came", x.item(1, 4, 3), x.rowAt(2));
        x.fill(0, 4, 3);
        Check.due("one that is not called", x.copy(0, 0, 1, 2, 3), STORE);
        Check.due("the one ahead is copied", x.item(1, 4, 2), x.rowAt(4));
        Check.due("itself is not", x.item(1, 4, 3), x.rowAt(2));
        Check.due("nor those behind", x.item(1, 4, 4), NULL);
        x.board(2, 3, 6);
        Check.due("called ones go among lines", x.copy(1, 0, 2, 0, 6), 0);
        Check.due("they did", x.item(2, 3, 2), x.rowAt(4));
        Check.due("nothing, too", x.copy(1, 4, 2, 2, 1), 0);
        Check.due("it did", x.item(2, 3, 2), NULL);
        Check.due("and back", x.copy(2, 3, 1, 0, 1), 0);
        Check.due("called ones to called ones", x.copy(1, 0, 1, 5, 1), 0);
        Check.due("they came", x.item(1, 4, 5), x.rowAt(2));
    }

    private static void item() {
        BelfryHouse x = house();
        int[][] bad = {{-1, 0, 0}, {8, 0, 0}, {0, -1, 0}, {0, 5, 0}, {Integer.MAX_VALUE, 0, 0}, {0, Integer.MIN_VALUE, 0}};
        for (int[] b : bad) Check.due("item " + b[0] + " " + b[1], x.item(b[0], b[1], b[2]), 0);
        for (int sort = 0; sort < 5; sort++) Check.due("the board holds nothing", x.item(0, sort, 99), NULL);
        for (int sort = 0; sort < 5; sort++) {
            x.board(0, sort, 3);
            for (int as = 0; as < 5; as++) {
                boolean reads = as == sort || sort == 4 && as == 3;
                Check.due("sort " + sort + " as " + as, x.item(0, as, 1), !reads ? CAST : as < 3 ? 0 : NULL);
                Check.due("CAST is ahead of INDEX", x.item(0, as, 3), reads ? INDEX : CAST);
                Check.due("item -1", x.item(0, as, -1), reads ? INDEX : CAST);
                Check.due("item far", x.item(0, as, Integer.MAX_VALUE), reads ? INDEX : CAST);
            }
        }
        Check.due("a called line", x.fill(0, 2, 1), 0);
        Check.due("read as a line", x.item(0, 3, 0), x.rowAt(2));
        x.stage(8);
        Check.method(x, "turn 1 8;");
        x.ring(0);
        x.go(1);
        x.board(0, 0, 2);
        x.board(1, 3, 2);
        x.fill(0, 0, 2);
        x.fill(1, 0, 2);
        Check.due("bell 8", x.item(0, 0, 1), 8);
        Check.due("the greatest row", x.item(1, 3, 1), 87654321);
    }
}
