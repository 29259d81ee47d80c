/** Section 7 of the terms and promises 35 to 40: a test for each sentence that names a boundary. */
final class EdgesOfShelvesTest {
    private static final int BAD = -1, NULL = -4, SIZE = -5, INDEX = -6, CAST = -7, STORE = -8;
    private static final long NAN = 0x7ff8000000000000L;
    private static final int BYTES = 0, INTS = 1, DOUBLES = 2, LINES = 3, CALLED_LINES = 4;
    private static final int STEPS = 80;

    public static void main(String[] args) {
        eightBoards();
        atFirst();
        lineAsItWas();
        calledLines();
        rowZeroIsNotCalled();
        calledLinesAlone();
        doneAheadStays();
        board();
        boardRefuses();
        boardSize();
        clear();
        items();
        fillItems();
        fillFromRows();
        fillLines();
        fillDoubles();
        fillRefuses();
        fillOfNone();
        fillNull();
        fillIndex();
        fillStore();
        copyItems();
        copyAsIfTakenFirst();
        copyRefuses();
        copyNull();
        copySorts();
        copyIndex();
        copyStore();
        copyOrder();
        itemSorts();
        itemRefuses();
        itemCast();
        itemNull();
        itemIndex();
        itemNothing();
        Check.finish();
    }

    /** A round of six of 80 STEPS; those with an odd number are CALLED, so that the ROWS 2, 4 .. 80 are. */
    private static BelfryHouse house() {
        BelfryHouse x = new BelfryHouse();
        Check.method(x, "jump 1 6;");
        x.ring(0);
        for (int step = 1; step < STEPS; step += 2) x.call(step, 1);
        Check.due("go", x.go(STEPS), STEPS);
        return x;
    }

    private static BelfryHouse house(int sort, int size) {
        BelfryHouse x = house();
        Check.due("board", x.board(0, sort, size), 0);
        return x;
    }

    /** What an item is told as when it was never filled. */
    private static long empty(int sort) {
        return sort < LINES ? 0 : NULL;
    }

    private static void eightBoards() {
        Check.sentence("THE SHELF has 8 BOARDS; each holds NOTHING or an ARRAY of a SORT: 0 bytes, 1 ints, 2 doubles, 3 of LINES, "
            + "4 of CALLED LINES.");
        BelfryHouse x = new BelfryHouse();
        for (int b = 0; b < 8; b++) {
            Check.due("NOTHING", x.items(b), NULL);
            Check.due("board " + b, x.board(b, b % 5, b), 0);
        }
        for (int b = 0; b < 8; b++) Check.due("its own ARRAY " + b, x.items(b), b);
        Check.due("no ninth", x.board(8, 0, 0), BAD);
        Check.due("none below", x.board(-1, 0, 0), BAD);
        Check.due("SORT 5", x.board(0, 5, 0), BAD);
        Check.due("SORT -1", x.board(0, -1, 0), BAD);
    }

    private static void atFirst() {
        Check.sentence("At first all items are 0, or NOTHING.");
        BelfryHouse x = house();
        for (int round = 0; round < 2; round++) {
            for (int sort = 0; sort < 5; sort++) {
                x.board(sort, sort, 64);
                for (int i = 0; i < 64; i += 9) Check.due("SORT " + sort + " item " + i, x.item(sort, sort, i), empty(sort));
                x.fill(sort, 2, sort == CALLED_LINES ? 1 : 60);
                Check.holds("something", x.item(sort, sort, 0) != empty(sort));
            }
        }
        for (int b = 0; b < 4; b++) x.board(b, 4 - b, 3);
        for (int b = 0; b < 4; b++) Check.due("another SORT", x.item(b, 4 - b, 0), empty(4 - b));
    }

    private static void lineAsItWas() {
        Check.sentence("A LINE is a ROW of THE RUN as it was, with its number there");
        BelfryHouse x = house(LINES, 4);
        x.fill(0, 1, 4);
        int[] due = {234561, 345612, 456123, 561234};
        for (int i = 0; i < 4; i++) Check.due("LINE " + i, x.item(0, LINES, i), due[i]);
        Check.method(x, "hold;");
        x.ring(1);
        for (int i = 0; i < 4; i++) Check.due("behind ring " + i, x.item(0, LINES, i), due[i]);
        x.go(4);
        for (int i = 0; i < 4; i++) Check.due("behind go " + i, x.item(0, LINES, i), due[i]);
        x.stage(6);
        Check.due("NOTHING behind stage", x.item(0, LINES, 0), NULL);
    }

    private static void calledLines() {
        Check.sentence("it is a CALLED one, if the STEP that made it was CALLED then.");
        BelfryHouse x = house(CALLED_LINES, 4);
        Check.due("STEP 1 made ROW 2", x.fill(0, 2, 1), 0);
        Check.due("STEP 2 made ROW 3", x.fill(0, 3, 1), STORE);
        x.call(1, 0);
        x.call(2, 1);
        Check.due("it was CALLED then", x.fill(0, 2, 1), 0);
        Check.due("it was not then", x.fill(0, 3, 1), STORE);
        x.board(1, LINES, 2);
        x.fill(1, 2, 2);
        x.ring(0);
        Check.due("it is a CALLED one still", x.copy(1, 0, 0, 1, 1), 0);
        Check.due("and this is none", x.copy(1, 1, 0, 1, 1), STORE);
        x.go(4);
        Check.due("none is CALLED in this RUN", x.fill(0, 2, 1), STORE);
        x.call(4, 1);
        x.go(1);
        Check.due("STEP 4 made ROW 5", x.fill(0, 5, 1), 0);
        Check.due("and not ROW 4", x.fill(0, 4, 1), STORE);
        BelfryHouse y = new BelfryHouse();
        Check.method(y, "hold;");
        y.ring(0);
        y.call(1999, 1);
        for (int i = 0; i < 4; i++) y.go(500);
        y.board(0, CALLED_LINES, 1);
        Check.due("the last STEP made the last ROW", y.fill(0, 2000, 1), 0);
        Check.due("the ROW ahead", y.fill(0, 1999, 1), STORE);
    }

    private static void rowZeroIsNotCalled() {
        Check.sentence("it is a CALLED one, if the STEP that made it was CALLED then.");
        BelfryHouse x = new BelfryHouse();
        Check.method(x, "hold;");
        x.ring(0);
        x.call(0, 1);
        x.go(1);
        x.board(0, CALLED_LINES, 2);
        Check.due("no STEP made ROW 0", x.fill(0, 0, 1), STORE);
        Check.due("STEP 0 made ROW 1", x.fill(0, 1, 1), 0);
        x.ring(0);
        Check.due("no STEP made ROW 0", x.fill(0, 0, 1), STORE);
    }

    private static void calledLinesAlone() {
        Check.sentence("A SORT 4 takes CALLED LINES alone.");
        BelfryHouse x = house(CALLED_LINES, 3);
        Check.due("fill", x.fill(0, 5, 1), STORE);
        Check.due("fill", x.fill(0, 6, 1), 0);
        x.board(1, LINES, 3);
        x.fill(1, 5, 2);
        Check.due("copy", x.copy(1, 0, 0, 1, 1), STORE);
        Check.due("copy", x.copy(1, 1, 0, 1, 1), 0);
        Check.due("the others take any", x.fill(1, 0, 3), 0);
    }

    private static void doneAheadStays() {
        Check.sentence("what was done ahead of one stays done.");
        BelfryHouse x = house(INTS, 3);
        Check.due("fill", x.fill(0, 1, 4), INDEX);
        for (int i = 0; i < 3; i++) Check.due("item " + i, x.item(0, INTS, i), x.told(x.rowAt(1 + i), 1));
        x.board(1, CALLED_LINES, 3);
        Check.due("fill", x.fill(1, 2, 3), STORE);
        Check.due("ahead", x.item(1, CALLED_LINES, 0), x.rowAt(2));
        Check.due("itself", x.item(1, CALLED_LINES, 1), NULL);
        Check.due("behind, though it is a CALLED one", x.item(1, CALLED_LINES, 2), NULL);
        x.board(2, LINES, 3);
        x.fill(2, 2, 3);
        x.board(1, CALLED_LINES, 3);
        Check.due("copy", x.copy(2, 0, 1, 0, 3), STORE);
        Check.due("ahead", x.item(1, CALLED_LINES, 0), x.rowAt(2));
        Check.due("itself", x.item(1, CALLED_LINES, 1), NULL);
        Check.due("behind, though it is a CALLED one", x.item(1, CALLED_LINES, 2), NULL);
    }

    // ---- the calls

    private static void board() {
        Check.sentence("A BOARD gets a new ARRAY of a SORT with n items: 0.");
        BelfryHouse x = house();
        for (int sort = 0; sort < 5; sort++) {
            for (int n : new int[] {64, 1, 0}) {
                Check.due("board", x.board(7, sort, n), 0);
                Check.due("items", x.items(7), n);
                Check.due("the last one", n == 0 ? empty(sort) : x.item(7, sort, n - 1), empty(sort));
                Check.due("none behind it", x.item(7, sort, n), INDEX);
                x.fill(7, 2, Math.min(n, 1));
            }
        }
    }

    private static void boardRefuses() {
        Check.sentence("BAD: no BOARD, SORT, n above 64.");
        BelfryHouse x = house(BYTES, 5);
        int[][] bad = {{-1, 0, 1}, {8, 0, 1}, {0, -1, 1}, {0, 5, 1}, {0, 0, 65}, {0, 4, 65}};
        for (int[] b : bad) Check.due("board " + b[0] + " " + b[1] + " " + b[2], x.board(b[0], b[1], b[2]), BAD);
        Check.due("as it was", x.items(0), 5);
        Check.due("BAD ahead of SIZE", x.board(8, 0, -1), BAD);
        Check.due("BAD ahead of SIZE", x.board(0, 5, -1), BAD);
    }

    private static void boardSize() {
        Check.sentence("SIZE: n is below 0.");
        BelfryHouse x = house(BYTES, 5);
        x.fill(0, 0, 5);
        for (int sort = 0; sort < 5; sort++) {
            Check.due("-1", x.board(0, sort, -1), SIZE);
            Check.due("far below", x.board(0, sort, Integer.MIN_VALUE), SIZE);
            Check.due("0", x.board(1, sort, 0), 0);
        }
        Check.due("as it was", x.items(0), 5);
        Check.due("as it was", x.item(0, BYTES, 4), 5);
        x.board(7, 1, -1);
        Check.due("NOTHING still", x.items(7), NULL);
    }

    private static void clear() {
        Check.sentence("It holds NOTHING: 0. BAD.");
        BelfryHouse x = house(LINES, 5);
        Check.due("clear", x.clear(0), 0);
        Check.due("NOTHING", x.items(0), NULL);
        Check.due("NOTHING to read", x.item(0, LINES, 0), NULL);
        Check.due("NOTHING to fill", x.fill(0, 0, 1), NULL);
        Check.due("again", x.clear(0), 0);
        Check.due("the last one", x.clear(7), 0);
        Check.due("-1", x.clear(-1), BAD);
        Check.due("8", x.clear(8), BAD);
        x.board(0, LINES, 5);
        Check.due("a new one", x.item(0, LINES, 0), NULL);
        Check.due("a new one", x.items(0), 5);
    }

    private static void items() {
        Check.sentence("How many items. BAD. NULL.");
        BelfryHouse x = house(CALLED_LINES, 0);
        Check.due("none", x.items(0), 0);
        x.board(0, CALLED_LINES, 64);
        Check.due("64", x.items(0), 64);
        Check.due("-1", x.items(-1), BAD);
        Check.due("8", x.items(8), BAD);
        Check.due("NOTHING", x.items(1), NULL);
        Check.due("NOTHING", x.items(7), NULL);
    }

    private static void fillItems() {
        Check.sentence("a byte with the bell at PLACE 1, an int with the RANK");
        BelfryHouse x = house(BYTES, 6);
        Check.due("fill", x.fill(0, 1, 6), 0);
        int[] bells = {2, 3, 4, 5, 6, 1};
        for (int i = 0; i < 6; i++) Check.due("byte " + i, x.item(0, BYTES, i), bells[i]);
        x.board(0, INTS, 64);
        Check.due("fill", x.fill(0, 17, 64), 0);
        for (int i = 0; i < 64; i++) Check.due("int " + i, x.item(0, INTS, i), x.told(x.rowAt(17 + i), 1));
        Check.due("the first item again", x.fill(0, 1, 1), 0);
        Check.due("the first", x.item(0, INTS, 0), x.told(234561, 1));
        Check.due("the second as before", x.item(0, INTS, 1), x.told(x.rowAt(18), 1));
        BelfryHouse y = Check.rung(8, "turn 1 8;", 1);
        y.board(0, BYTES, 2);
        y.board(1, INTS, 2);
        y.fill(0, 0, 2);
        y.fill(1, 0, 2);
        Check.due("bell 8", y.item(0, BYTES, 1), 8);
        Check.due("the greatest RANK", y.item(1, INTS, 1), 40319);
        Check.due("the least", y.item(1, INTS, 0), 0);
    }

    private static void fillFromRows() {
        Check.sentence("Items from 0 on, n of them, are filled from ROWS from .. of THE RUN, one by one");
        BelfryHouse x = house(BYTES, 4);
        Check.due("fill", x.fill(0, 3, 2), 0);
        int[] due = {4, 5, 0, 0};
        for (int i = 0; i < 4; i++) Check.due("item " + i, x.item(0, BYTES, i), due[i]);
        Check.due("from another ROW", x.fill(0, 0, 1), 0);
        due[0] = 1;
        for (int i = 0; i < 4; i++) Check.due("item " + i, x.item(0, BYTES, i), due[i]);
        Check.due("from the last ROW", x.fill(0, STEPS, 1), 0);
        Check.due("80 is 2 of six", x.item(0, BYTES, 0), 3);
    }

    private static void fillLines() {
        Check.sentence("one of LINES with the ROW as a LINE: 0.");
        BelfryHouse x = house(LINES, 3);
        Check.due("fill", x.fill(0, 0, 2), 0);
        Check.due("ROW 0", x.item(0, LINES, 0), 123456);
        Check.due("ROW 1", x.item(0, LINES, 1), 234561);
        Check.due("NOTHING", x.item(0, LINES, 2), NULL);
        x.board(0, CALLED_LINES, 3);
        Check.due("fill", x.fill(0, 4, 1), 0);
        Check.due("ROW 4", x.item(0, CALLED_LINES, 0), 561234);
        Check.due("NOTHING", x.item(0, CALLED_LINES, 1), NULL);
    }

    private static void fillDoubles() {
        Check.sentence("a double with the RANK / the number of the ROW");
        BelfryHouse x = house(DOUBLES, 64);
        x.fill(0, 0, 64);
        Check.due("0 / 0", x.item(0, DOUBLES, 0), NAN);
        for (int k = 1; k < 64; k++) {
            double due = (double) x.told(x.rowAt(k), 1) / k;
            Check.due("ROW " + k, x.item(0, DOUBLES, k), Double.doubleToLongBits(due));
        }
        Check.due("0 / 6", x.item(0, DOUBLES, 6), 0);
    }

    private static void fillRefuses() {
        Check.sentence("BAD: n is not 0 .. 64, no such ROWS");
        BelfryHouse x = house(INTS, 64);
        Check.due("n -1", x.fill(0, 0, -1), BAD);
        Check.due("n 65", x.fill(0, 0, 65), BAD);
        Check.due("n 64", x.fill(0, 0, 64), 0);
        Check.due("board -1", x.fill(-1, 0, 1), BAD);
        Check.due("board 8", x.fill(8, 0, 1), BAD);
        Check.due("ROW -1", x.fill(0, -1, 1), BAD);
        Check.due("up to the last ROW", x.fill(0, STEPS, 1), 0);
        Check.due("up to the last ROW", x.fill(0, STEPS - 63, 64), 0);
        Check.due("one behind it", x.fill(0, STEPS + 1, 1), BAD);
        Check.due("one behind it", x.fill(0, STEPS, 2), BAD);
        Check.due("one behind it", x.fill(0, STEPS - 62, 64), BAD);
        Check.due("nothing was filled", x.item(0, INTS, 0), x.told(x.rowAt(STEPS - 63), 1));
        BelfryHouse y = new BelfryHouse();
        y.board(0, INTS, 4);
        Check.due("no RUN", y.fill(0, 0, 1), BAD);
        Check.method(y, "hold;");
        y.ring(0);
        Check.due("ROW 0", y.fill(0, 0, 1), 0);
        Check.due("no ROW 1", y.fill(0, 0, 2), BAD);
    }

    private static void fillOfNone() {
        Check.sentence("(with n 0 none are asked for)");
        BelfryHouse x = house(CALLED_LINES, 0);
        int[] rows = {0, -1, STEPS, STEPS + 1, Integer.MAX_VALUE, Integer.MIN_VALUE};
        for (int from : rows) Check.due("from " + from, x.fill(0, from, 0), 0);
        BelfryHouse y = new BelfryHouse();
        y.board(0, LINES, 3);
        Check.due("no RUN", y.fill(0, 5, 0), 0);
        Check.due("board 8", y.fill(8, 5, 0), BAD);
        Check.due("NOTHING", y.fill(1, 5, 0), NULL);
    }

    private static void fillNull() {
        Check.sentence("(with n 0 none are asked for). NULL.");
        BelfryHouse x = house();
        Check.due("NOTHING", x.fill(0, 0, 1), NULL);
        Check.due("BAD ahead of NULL", x.fill(0, 0, 65), BAD);
        Check.due("BAD ahead of NULL", x.fill(0, STEPS + 1, 1), BAD);
        x.board(0, BYTES, 1);
        Check.due("an ARRAY", x.fill(0, 0, 1), 0);
        x.clear(0);
        Check.due("NOTHING again", x.fill(0, 0, 1), NULL);
    }

    private static void fillIndex() {
        Check.sentence("INDEX: when the items are at an end.");
        for (int sort = 0; sort < 4; sort++) {
            BelfryHouse x = house(sort, 3);
            Check.due("just up to it", x.fill(0, 1, 3), 0);
            Check.due("one more", x.fill(0, 3, 4), INDEX);
            int row = x.rowAt(5), rank = x.told(row, 1);
            long[] due = {6, rank, Double.doubleToLongBits(rank / 5.0), row};
            Check.due("the last one is filled", x.item(0, sort, 2), due[sort]);
            x.board(0, sort, 0);
            Check.due("no items", x.fill(0, 0, 1), INDEX);
        }
    }

    private static void fillStore() {
        Check.sentence("STORE: a LINE that is not CALLED, for a SORT 4.");
        BelfryHouse x = house(CALLED_LINES, 2);
        Check.due("the first", x.fill(0, 1, 2), STORE);
        Check.due("nothing is filled", x.item(0, CALLED_LINES, 0), NULL);
        Check.due("the second", x.fill(0, 2, 2), STORE);
        Check.due("one is filled", x.item(0, CALLED_LINES, 0), 345612);
        Check.due("STORE, and only then no items", x.fill(0, 1, 3), STORE);
        x.board(0, CALLED_LINES, 1);
        Check.due("no items, where STORE would be next", x.fill(0, 2, 2), INDEX);
        for (int sort = 0; sort < 4; sort++) {
            x.board(1, sort, 2);
            Check.due("any, for SORT " + sort, x.fill(1, 1, 2), 0);
        }
    }

    private static void copyItems() {
        Check.sentence("Items of one BOARD from i on, n of them, are copied to another one's (or its own) from j on");
        for (int sort = 0; sort < 4; sort++) {
            BelfryHouse x = house(sort, 6);
            x.fill(0, 1, 6);
            x.board(1, sort, 9);
            Check.due("copy", x.copy(0, 2, 1, 4, 3), 0);
            for (int k = 0; k < 9; k++) {
                Check.due("item " + k, x.item(1, sort, k), k < 4 || k > 6 ? empty(sort) : x.item(0, sort, k - 2));
            }
            Check.due("none", x.copy(0, 0, 1, 4, 0), 0);
            Check.due("as it was", x.item(1, sort, 4), x.item(0, sort, 2));
            Check.due("all", x.copy(0, 0, 1, 3, 6), 0);
            Check.due("the last", x.item(1, sort, 8), x.item(0, sort, 5));
        }
    }

    private static void copyAsIfTakenFirst() {
        Check.sentence("as if all were taken first: 0.");
        for (int sort = 0; sort < 5; sort++) {
            for (int to = 0; to <= 4; to++) {
                BelfryHouse x = house(sort, 8);
                x.board(1, sort, 1);
                for (int i = 0; i < 8; i++) {
                    x.fill(1, sort == CALLED_LINES ? 2 * i + 2 : i + 1, 1);
                    Check.due("one by one", x.copy(1, 0, 0, i, 1), 0);
                }
                long[] before = new long[8];
                for (int i = 0; i < 8; i++) before[i] = x.item(0, sort, i);
                Check.due("copy", x.copy(0, 2, 0, to, 4), 0);
                for (int i = 0; i < 8; i++) {
                    long due = i >= to && i < to + 4 ? before[i - to + 2] : before[i];
                    Check.due("SORT " + sort + " to " + to + " item " + i, x.item(0, sort, i), due);
                }
            }
        }
    }

    private static void copyRefuses() {
        Check.sentence("BAD: no BOARDS.");
        BelfryHouse x = house(BYTES, 3);
        for (int b : new int[] {-1, 8}) {
            Check.due("from " + b, x.copy(b, 0, 0, 0, 1), BAD);
            Check.due("to " + b, x.copy(0, 0, b, 0, 1), BAD);
            Check.due("BAD ahead of NULL", x.copy(b, 0, 7, 0, 1), BAD);
            Check.due("BAD ahead of NULL", x.copy(7, 0, b, 0, 1), BAD);
            Check.due("BAD ahead of INDEX", x.copy(0, -1, b, 0, 1), BAD);
        }
        x.board(7, BYTES, 3);
        Check.due("the last board", x.copy(7, 0, 7, 0, 1), 0);
    }

    private static void copyNull() {
        Check.sentence("BAD: no BOARDS. NULL;");
        BelfryHouse x = house(BYTES, 3);
        Check.due("from NOTHING", x.copy(1, 0, 0, 0, 1), NULL);
        Check.due("to NOTHING", x.copy(0, 0, 1, 0, 1), NULL);
        Check.due("NOTHING to NOTHING", x.copy(1, 0, 2, 0, 1), NULL);
        Check.due("none of NOTHING", x.copy(1, 0, 1, 0, 0), NULL);
        Check.due("NULL ahead of INDEX", x.copy(0, 9, 1, 0, 1), NULL);
        Check.due("NULL ahead of INDEX", x.copy(1, -1, 0, 0, -1), NULL);
    }

    private static void copySorts() {
        Check.sentence("STORE: other SORTS (3 and 4 go together)");
        for (int from = 0; from < 5; from++) {
            for (int to = 0; to < 5; to++) {
                BelfryHouse x = house(from, 2);
                x.board(1, to, 2);
                boolean go = from == to || from >= LINES && to >= LINES;
                Check.due("SORT " + from + " to " + to, x.copy(0, 0, 1, 0, 2), go ? 0 : STORE);
                Check.due("none of it", x.copy(0, 0, 1, 0, 0), go ? 0 : STORE);
                Check.due("ahead of INDEX", x.copy(0, 1, 1, 0, 2), go ? INDEX : STORE);
            }
        }
    }

    private static void copyIndex() {
        Check.sentence("INDEX; then one by one STORE");
        int[][] sorts = {{0, 0}, {1, 1}, {2, 2}, {3, 3}, {4, 4}, {3, 4}, {4, 3}};
        for (int[] sort : sorts) {
            BelfryHouse x = house(sort[0], 4);
            x.board(1, sort[1], 6);
            int[][] index = {{-1, 0, 1}, {0, -1, 1}, {0, 0, -1}, {0, 0, 5}, {4, 0, 1}, {5, 0, 0}, {0, 6, 1}, {0, 7, 0}, {1, 0, 4},
                {0, 3, 4}, {-1, 0, 0}, {0, -1, 0}, {-1, -1, -1}, {1, 1, -1}};
            for (int[] i : index) Check.due("copy " + i[0] + " " + i[1] + " " + i[2], x.copy(0, i[0], 1, i[1], i[2]), INDEX);
            Check.due("none at the ends", x.copy(0, 4, 1, 6, 0), 0);
            Check.due("up to the end of one", x.copy(0, 0, 1, 1, 4), 0);
            Check.due("up to both ends", x.copy(0, 0, 1, 2, 4), 0);
        }
        BelfryHouse y = house(LINES, 3);
        y.fill(0, 1, 3);
        y.board(1, CALLED_LINES, 2);
        Check.due("INDEX ahead of a LINE that is not CALLED", y.copy(0, 0, 1, 0, 3), INDEX);
        y.fill(0, 2, 1);
        Check.due("INDEX, and nothing is copied", y.copy(0, 0, 1, 0, 3), INDEX);
        Check.due("nothing", y.item(1, CALLED_LINES, 0), NULL);
    }

    private static void copyStore() {
        Check.sentence("then one by one STORE: a LINE that is not CALLED comes to a SORT 4 (NOTHING may): those ahead of it are copied.");
        BelfryHouse x = house(LINES, 4);
        x.board(1, CALLED_LINES, 4);
        x.fill(0, 2, 1);
        Check.due("a CALLED one, and NOTHING", x.copy(0, 0, 1, 0, 4), 0);
        Check.due("the CALLED one", x.item(1, CALLED_LINES, 0), 345612);
        Check.due("NOTHING comes", x.copy(0, 1, 1, 0, 1), 0);
        Check.due("it came", x.item(1, CALLED_LINES, 0), NULL);
        x.fill(0, 2, 4);
        Check.due("CALLED, not, CALLED, not", x.copy(0, 0, 1, 0, 4), STORE);
        Check.due("the first is copied", x.item(1, CALLED_LINES, 0), 345612);
        Check.due("no other", x.item(1, CALLED_LINES, 1), NULL);
        Check.due("no other", x.item(1, CALLED_LINES, 2), NULL);
        Check.due("at once", x.copy(0, 1, 1, 2, 2), STORE);
        Check.due("none", x.item(1, CALLED_LINES, 2), NULL);
        Check.due("the other way about all may", x.copy(1, 0, 0, 1, 3), 0);
        Check.due("they came", x.item(0, LINES, 1), 345612);
        Check.due("NOTHING, too", x.item(0, LINES, 2), NULL);
    }

    private static void copyOrder() {
        Check.sentence("BAD: no BOARDS. NULL; STORE: other SORTS (3 and 4 go together); INDEX;");
        BelfryHouse x = house(BYTES, 2);
        x.board(1, INTS, 2);
        Check.due("BAD is first", x.copy(9, 9, 9, 9, 9), BAD);
        Check.due("then NULL", x.copy(0, 9, 7, 9, 9), NULL);
        Check.due("then STORE", x.copy(0, 9, 1, 9, 9), STORE);
        Check.due("then INDEX", x.copy(0, 9, 0, 9, 9), INDEX);
    }

    private static void itemSorts() {
        Check.sentence("An item read as one of a SORT: a byte, an int, BITS of a double, the ROW of a LINE.");
        BelfryHouse x = house();
        for (int sort = 0; sort < 5; sort++) {
            x.board(sort, sort, 1);
            x.fill(sort, 4, 1);
        }
        Check.due("ROW 4", x.rowAt(4), 561234);
        int rank = x.told(561234, 1);
        long[] due = {5, rank, Double.doubleToLongBits(rank / 4.0), 561234, 561234};
        for (int sort = 0; sort < 5; sort++) Check.due("SORT " + sort, x.item(sort, sort, 0), due[sort]);
        Check.due("4 as 3", x.item(4, 3, 0), 561234);
    }

    private static void itemRefuses() {
        Check.sentence("BAD: 0.");
        BelfryHouse x = house(BYTES, 2);
        x.fill(0, 0, 2);
        Check.due("board -1", x.item(-1, 0, 0), 0);
        Check.due("board 8", x.item(8, 0, 0), 0);
        Check.due("SORT -1", x.item(0, -1, 0), 0);
        Check.due("SORT 5", x.item(0, 5, 0), 0);
        Check.due("ahead of NULL", x.item(1, 5, 0), 0);
        Check.due("ahead of INDEX", x.item(0, 5, 9), 0);
    }

    private static void itemCast() {
        Check.sentence("Told as they are: CAST (SORT 4 can be read as 3, too)");
        BelfryHouse x = house();
        for (int sort = 0; sort < 5; sort++) {
            x.board(sort, sort, 2);
            x.fill(sort, 2, 1);
            for (int as = 0; as < 5; as++) {
                boolean reads = as == sort || sort == CALLED_LINES && as == LINES;
                long got = x.item(sort, as, 0);
                Check.due("SORT " + sort + " as " + as, got == CAST ? 0 : 1, reads ? 1 : 0);
                Check.due("CAST ahead of INDEX", x.item(sort, as, 2), reads ? INDEX : CAST);
                Check.due("CAST ahead of NULL", x.item(sort, as, 1), reads ? empty(sort) : CAST);
            }
        }
        Check.due("SORT 3 is not 4, though its item is a CALLED one", x.item(LINES, CALLED_LINES, 0), CAST);
    }

    private static void itemNull() {
        Check.sentence("NULL: the BOARD holds NOTHING");
        BelfryHouse x = house();
        for (int as = 0; as < 5; as++) {
            Check.due("as " + as, x.item(0, as, 0), NULL);
            Check.due("ahead of INDEX", x.item(0, as, -1), NULL);
            Check.due("ahead of INDEX", x.item(7, as, 99), NULL);
        }
        x.board(0, INTS, 3);
        x.clear(0);
        for (int as = 0; as < 5; as++) Check.due("behind clear, as " + as, x.item(0, as, 0), NULL);
    }

    private static void itemIndex() {
        Check.sentence("INDEX; NULL: the item is NOTHING.");
        for (int sort = 0; sort < 5; sort++) {
            for (int n : new int[] {0, 1, 64}) {
                BelfryHouse x = house(sort, n);
                Check.due("-1", x.item(0, sort, -1), INDEX);
                Check.due("n", x.item(0, sort, n), INDEX);
                Check.due("64", x.item(0, sort, 64), INDEX);
                if (n > 0) Check.due("n - 1", x.item(0, sort, n - 1), empty(sort));
            }
            // a smaller ARRAY on a BOARD that had a greater one
            BelfryHouse y = house(sort, 5);
            y.board(0, sort, 3);
            Check.due("3", y.item(0, sort, 3), INDEX);
        }
    }

    private static void itemNothing() {
        Check.sentence("NULL: the item is NOTHING.");
        BelfryHouse x = house();
        for (int sort = LINES; sort <= CALLED_LINES; sort++) {
            x.board(sort, sort, 3);
            x.fill(sort, 2, 1);
            Check.due("a LINE", x.item(sort, sort, 0), 345612);
            for (int as = LINES; as <= sort; as++) Check.due("NOTHING", x.item(sort, as, 1), NULL);
        }
        for (int sort = 0; sort < LINES; sort++) {
            x.board(sort, sort, 3);
            Check.due("0 is not NOTHING", x.item(sort, sort, 1), 0);
        }
    }
}
