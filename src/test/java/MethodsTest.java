/** Promises 7 to 10: feed, method, about, change. */
final class MethodsTest {
    private static final int BAD = -1, FULL = -3;

    public static void main(String[] args) {
        feed();
        tapeIsUsedUp();
        fullOfMethods();
        tokens();
        rules();
        conds();
        changes();
        limits();
        about();
        changesOfRows();
        refusedChanges();
        everyChangeIsUndone();
        Check.finish();
    }

    /** THE FAULT of a text on six bells; -1 if there is none. */
    private static int fault(String text) {
        int answer = Check.method(new BelfryHouse(), text);
        return answer == 0 ? -1 : -10 - answer;
    }

    private static void good(String text) {
        Check.due("fault of " + text, fault(text), -1);
    }

    /** The fault is at the sign ^, which is not itself in the text. */
    private static void bad(String text) {
        int at = text.indexOf('^');
        String told = text.substring(0, at) + text.substring(at + 1);
        Check.due("fault of " + told, fault(told), at);
    }

    private static void feed() {
        BelfryHouse x = new BelfryHouse();
        Check.due("feed 0", x.feed(0, 0), BAD);
        Check.due("feed 9", x.feed(9, 0), BAD);
        Check.due("feed below", x.feed(Integer.MIN_VALUE, 0), BAD);
        Check.due("feed far above", x.feed(Integer.MAX_VALUE, 0), BAD);
        for (int i = 1; i < 75; i++) Check.due("feed", x.feed(8, -1), 8 * i);
        Check.due("feed to 599", x.feed(7, -1), 599);
        Check.due("feed too much", x.feed(2, -1), FULL);
        Check.due("feed too much", x.feed(8, -1), FULL);
        Check.due("BAD is ahead of FULL", x.feed(9, -1), BAD);
        Check.due("feed to 600", x.feed(1, -1), 600);
        Check.due("feed none more", x.feed(1, -1), FULL);
        Check.due("a byte of 255 begins no token", x.method(), -10);
        Check.due("the lowest first", x.feed(8, 0x3b20_73_73_6f_72_63L << 8 | ' '), 8);
        Check.due("a method", x.method(), 0);
        Check.due("the n lowest alone", x.feed(5, 0x2121_21_64_6c_6f_68L << 8 | '\n'), 5);
        Check.due("and more", x.feed(1, ';' | 0x7f00), 6);
        Check.due("a method", x.method(), 1);
        Check.due("it holds", x.change(1, 0, 654321), 654321);
    }

    private static void tapeIsUsedUp() {
        BelfryHouse x = new BelfryHouse();
        Check.due("a fault", Check.method(x, "cross cross;"), -16);
        Check.due("the tape is empty", x.method(), -10);
        Check.due("a method", Check.method(x, "cross;"), 0);
        Check.due("the tape is empty", x.feed(1, 0), 1);
    }

    private static void fullOfMethods() {
        BelfryHouse x = new BelfryHouse();
        for (int i = 0; i < 8; i++) Check.due("a method", Check.method(x, "cross;"), i);
        Check.due("the ninth", Check.method(x, "cross;"), FULL);
        Check.due("the tape is empty", x.feed(1, ';'), 1);
        Check.due("asked ahead of the fault", x.method(), FULL);
        Check.due("the eighth stands", x.change(7, 0, 123456), 214365);
        Check.due("there is no ninth", x.about(8, 0), BAD);
        x.stage(6);
        Check.due("a method again", Check.method(x, "hold;"), 0);
    }

    private static void tokens() {
        good("cross;");
        good("  \n cross \n ; \n ");
        good("when1at1and2before3cross;");
        good("(hold,hold);");
        bad("^");
        bad("   ^");
        bad("cross^");
        bad("cross  ^");
        bad("^crosss;");
        bad("^cros;");
        bad("^Cross;");
        bad("cross^\t;");
        bad("^\r");
        bad("cross;^#");
        bad("cross;^\u0080");
        bad("cross;^\u0000");
        bad("hold;hold^1;");
        bad("jump ^000000001 2;");
        good("jump 00000001 2;");
        bad("jump 1^;");
        bad("jump ^12;");
        bad("jump 1 ^99999999;");
        bad("jump 1 ^4294967298;");
        bad("when^;");
        bad("cross^,hold;");
        bad("cross^);");
        bad("hold;^;");
        bad("^crossz;");
        bad("^across;");
        bad("^xross;");
        bad("^fold;");
        // a number is no sign, though it be the sign's byte, nor the other way about
        bad("hold ^59");
        bad("hold ^00000059;");
        bad("hold ^000000059;");
        bad("hold ^000000590;");
        bad("hold^000000590");
        bad("(hold ^44 hold);");
        bad("(hold ^41;");
        bad("^40 hold);");
        bad("when every ^; 0 hold;");
        bad("when every 99 ^) hold;");
    }

    private static void rules() {
        good("hold;cross;");
        good("when even hold;cross;");
        bad("when even^;");
        bad("when even and^;");
        bad("when even^,cross;");
        bad("when ^cross;");
        bad("hold ^when even hold;");
        bad("^and even hold;");
        bad("^even hold;");
        bad("hold; when even hold ^and even;");
        bad("when even ^when even");
    }

    private static void conds() {
        good("when 1 at 6 hold;");
        good("when not 6 at 1 hold;");
        good("when 1 before 6 hold;");
        good("when not even and round and not called hold;");
        good("when every 1 0 hold;");
        good("when every 99 98 hold;");
        good("when not every 2 1 hold;");
        bad("when ^0 at 1 hold;");
        bad("when ^7 at 1 hold;");
        bad("when 1 at ^0 hold;");
        bad("when 1 at ^7 hold;");
        bad("when 1 before ^7 hold;");
        bad("when 1 before ^0 hold;");
        bad("when 1 before ^1 hold;");
        bad("when 3 before ^03 hold;");
        bad("when 1 ^1 hold;");
        bad("when 1 ^even hold;");
        bad("when 1^");
        bad("when 1 at^");
        bad("when ^at 1 hold;");
        bad("when not ^not even hold;");
        bad("when not^");
        bad("when every ^0 0 hold;");
        bad("when every ^100 0 hold;");
        bad("when every 1 ^1 hold;");
        bad("when every 99 ^99 hold;");
        bad("when every 5 ^even;");
        bad("when every 5^");
        bad("when even ^or round hold;");
    }

    private static void changes() {
        good("places 12;");
        good("places 1256;");
        bad("places ^0;");
        bad("places ^13;");
        bad("places ^2;");
        bad("places ^1;");
        bad("places ^41;");
        bad("places ^1436;");
        bad("places ^18;");
        bad("places ^9;");
        bad("places^;");
        bad("places^,1;");
        bad("places ^11;");
        bad("places ^127;");
        bad("places ^123456789;");
        bad("places ^cross;");
        bad("places^");
        bad("jump 1 ^1;");
        bad("jump ^0 1;");
        bad("jump ^7 1;");
        bad("jump 1 ^7;");
        good("jump 6 1;");
        good("turn 1 6;");
        bad("turn 2 ^2;");
        bad("turn 2 ^1;");
        bad("turn 2 ^7;");
        bad("turn 6 ^6;");
        bad("turn 6^;");
        bad("turn ^0 1;");
        bad("turn ^7 8;");
        bad("turn 6^");
        bad("twice^;");
        bad("twice^");
        bad("undo ^when even hold;");
        bad("(^);");
        bad("(hold^;");
        bad("(hold,^);");
        bad("(hold^(hold));");
        bad("(hold^");
        bad("^,hold;");
        good("(hold);");
        good("twice undo (cross, places 14);");
    }

    private static String times(int n, String text) {
        return text.repeat(n);
    }

    private static void limits() {
        good(times(20, "hold;"));
        bad(times(20, "hold;") + "^hold;");
        bad(times(20, "hold;") + " ^when even hold;");
        bad(times(20, "hold;") + "^x");
        good("when even" + times(7, " and even") + " hold;");
        bad("when even" + times(7, " and even") + " and ^even hold;");
        bad("when even" + times(7, " and even") + " and ^not 1 at 1 hold;");
        bad("when even" + times(7, " and even") + " and^");
        bad("when even" + times(7, " and even") + " and ^hold;");
        good("when even" + times(7, " and even") + " hold; when even" + times(7, " and even") + " hold;");
        good("(hold" + times(38, ",hold") + ");");
        bad("(hold" + times(38, ",hold") + ",^hold);");
        bad("(hold" + times(38, ",hold") + ",^x");
        bad("(hold" + times(38, ",hold") + ",^");
        bad("(hold" + times(38, ",hold") + ");^hold;");
        bad("(hold" + times(38, ",hold") + ");when even ^hold;");
        good(times(13, "twice undo hold;") + "hold;");
        bad(times(13, "twice undo hold;") + "hold;^hold;");
        bad(times(13, "twice undo hold;") + "twice ^hold;");
        good("twice twice twice twice twice hold;");
        bad("twice twice twice twice twice twice ^hold;");
        bad("undo undo undo undo undo (^hold);");
        bad("undo (hold, undo undo undo undo ^hold);");
        bad("undo (hold, undo undo undo undo ^x);");
        good("undo (hold, undo undo undo hold);");
        bad("twice twice twice twice twice twice^");
        bad("((((((^hold))))));");
        good("(((((hold)))));");
    }

    private static void about() {
        BelfryHouse x = new BelfryHouse();
        Check.due("none yet", x.about(0, 0), BAD);
        Check.method(x, "cross;");
        Check.method(x, "when even twice (cross, undo places 14, hold); turn 1 2; jump 1 2; undo twice hold;");
        Check.due("rules", x.about(0, 0), 1);
        Check.due("COUNT", x.about(0, 1), 1);
        Check.due("rules", x.about(1, 0), 4);
        Check.due("COUNT", x.about(1, 1), 11);
        Check.due("no third", x.about(2, 0), BAD);
        Check.due("none below", x.about(-1, 0), BAD);
        Check.due("what below", x.about(0, -1), BAD);
        Check.due("what above", x.about(0, 2), BAD);
        Check.method(x, "cross; cross");
        Check.due("a fault is no method", x.about(2, 0), BAD);
        Check.due("far above", x.about(Integer.MAX_VALUE, 0), BAD);
        Check.due("far below", x.about(Integer.MIN_VALUE, 0), BAD);
    }

    private static int made(int n, String change, int row) {
        BelfryHouse x = new BelfryHouse();
        x.stage(n);
        Check.due("method " + change, Check.method(x, change + ";"), 0);
        return x.change(0, 0, row);
    }

    private static void change(int n, String change, int row, int want) {
        Check.due(change + " of " + row, made(n, change, row), want);
    }

    private static void changesOfRows() {
        change(6, "cross", 123456, 214365);
        change(5, "cross", 12345, 21435);
        change(7, "cross", 7654321, 6745231);
        change(6, "places 16", 123456, 132546);
        change(6, "places 36", 654321, 564231);
        change(6, "places 1234", 123456, 123465);
        change(6, "places 14", 246135, 264153);
        change(7, "places 1", 1234567, 1325476);
        change(7, "places 7", 1234567, 2143657);
        change(7, "places 3", 1234567, 2135476);
        change(8, "places 18", 12345678, 13254768);
        change(8, "places 12345678", 87654321, 87654321);
        change(6, "jump 1 4", 123456, 234156);
        change(6, "jump 4 1", 123456, 412356);
        change(6, "jump 2 3", 654321, 645321);
        change(6, "jump 6 5", 123456, 123465);
        change(6, "jump 1 6", 246135, 461352);
        change(6, "turn 1 6", 246135, 531642);
        change(6, "turn 2 4", 123456, 143256);
        change(6, "turn 5 6", 123456, 123465);
        change(6, "hold", 246135, 246135);
        change(6, "twice jump 1 6", 123456, 345612);
        change(6, "twice cross", 246135, 246135);
        change(6, "undo jump 1 4", 123456, 412356);
        change(6, "undo jump 1 4", 234156, 123456);
        change(6, "undo cross", 123456, 214365);
        change(6, "(jump 1 6, jump 1 2)", 123456, 324561);
        change(6, "(jump 1 2, jump 1 6)", 123456, 134562);
        change(6, "undo (jump 1 6, jump 1 2)", 324561, 123456);
        change(6, "twice (jump 1 3, cross)", 123456, 421356);
        change(3, "twice jump 3 1", 123, 231);
    }

    private static void refusedChanges() {
        BelfryHouse x = new BelfryHouse();
        Check.due("no method", x.change(0, 0, 123456), BAD);
        Check.method(x, "when not even cross; hold;");
        Check.due("though it does not hold", x.change(0, 0, 123456), 214365);
        Check.due("the other rule", x.change(0, 1, 123456), 123456);
        Check.due("no third rule", x.change(0, 2, 123456), BAD);
        Check.due("no rule below", x.change(0, -1, 123456), BAD);
        Check.due("no rule far above", x.change(0, Integer.MAX_VALUE, 123456), BAD);
        Check.due("no other method", x.change(1, 0, 123456), BAD);
        Check.due("no method below", x.change(-1, 0, 123456), BAD);
        Check.due("no row", x.change(0, 0, 123455), BAD);
        Check.due("no row", x.change(0, 0, 12345), BAD);
    }

    private static void everyChangeIsUndone() {
        String[] changes = {"cross", "places 36", "jump 2 5", "jump 5 2", "turn 2 6", "hold", "twice jump 1 5", "undo jump 6 2",
            "(cross, places 16, jump 1 3)"};
        for (String change : changes) {
            BelfryHouse x = new BelfryHouse();
            Check.method(x, change + "; undo " + change + "; twice " + change + "; undo twice " + change + ";");
            for (int rank = 0; rank < 720; rank += 7) {
                int row = x.ranked(rank);
                Check.due("undone " + change, x.change(0, 1, x.change(0, 0, row)), row);
                Check.due("undone ahead " + change, x.change(0, 0, x.change(0, 1, row)), row);
                Check.due("twice " + change, x.change(0, 2, row), x.change(0, 0, x.change(0, 0, row)));
                Check.due("undone twice " + change, x.change(0, 3, x.change(0, 2, row)), row);
            }
        }
    }
}
