import java.util.ArrayList;
import java.util.List;

/** Section 2 of the terms and promises 7 to 10: a test for each sentence that names a boundary. */
final class EdgesOfMethodsTest {
    private static final int BAD = -1, FULL = -3;
    private static final String[] VOCABULARY = {"when", "and", "not", "at", "before", "even", "round", "called", "every", "cross",
        "places", "jump", "turn", "hold", "twice", "undo", "(", ")", ",", ";", "0", "1", "2", "3", "5", "6", "7", "14", "99", "100",
        "1234", "99999999", "123456789", "x", "wheneven", "?"};
    private static final String[] GOOD = {"cross ;", "hold ; cross ;", "when even hold ;", "when not round and called hold ; turn 1 6 ;",
        "when 1 at 6 and 2 before 3 jump 6 1 ;", "when not every 99 98 places 14 ;", "twice undo ( hold , cross , ( turn 2 3 ) ) ;",
        "when every 1 0 undo places 123456 ;"};

    public static void main(String[] args) {
        cross();
        places();
        jump();
        turn();
        holdTwiceUndo();
        some();
        count();
        tapeHasSixHundred();
        words();
        numbers();
        everyByte();
        signs();
        blanks();
        asLongAsItCanBe();
        endsWhereTheTapeEnds();
        atLeastOneRule();
        rule();
        cond();
        changeOfParts();
        endsTooEarly();
        firstTokenThatCannotStand();
        anotherWord();
        numberOutOfItsBounds();
        bellsAndPlaces();
        beforeAndJumpDiffer();
        turnRises();
        everyBounds();
        digits();
        twentyFirstRule();
        ninthCond();
        fortyFirstChange();
        sixOthers();
        atAndBefore();
        evenRoundCalled();
        every();
        firstRule();
        eightMethods();
        feedCounts();
        feedRefuses();
        methodAnswers();
        about();
        aboutRefuses();
        change();
        changeRefuses();
        Check.finish();
    }

    // ---- changes

    private static int made(int n, String change, int row) {
        BelfryHouse x = new BelfryHouse();
        x.stage(n);
        Check.due("method " + change, Check.method(x, change + ";"), 0);
        return x.change(0, 0, row);
    }

    private static void makes(int n, String change, int want) {
        Check.due(change + " of ROUNDS on " + n, made(n, change, Everything.rounds(n)), want);
    }

    private static void cross() {
        Check.sentence("CROSS: the bells at PLACES 1 and 2 change PLACES, those at 3 and 4, and so on (the last one stays, if n is odd).");
        int[] due = {213, 2143, 21435, 214365, 2143657, 21436587};
        for (int n = 3; n <= 8; n++) makes(n, "cross", due[n - 3]);
        Check.due("by places, not bells", made(3, "cross", 312), 132);
    }

    private static void places() {
        Check.sentence("PLACES d d ..: the bells there stay, those between (ahead, behind) change by twos from the left.");
        makes(3, "places 1", 132);
        makes(3, "places 3", 213);
        makes(3, "places 123", 123);
        makes(4, "places 14", 1324);
        makes(4, "places 12", 1243);
        makes(4, "places 34", 2134);
        makes(5, "places 5", 21435);
        makes(5, "places 1", 13254);
        makes(5, "places 3", 21354);
        makes(6, "places 16", 132546);
        makes(6, "places 36", 213546);
        makes(6, "places 56", 214356);
        makes(7, "places 347", 2134657);
        makes(8, "places 18", 13254768);
        makes(8, "places 12345678", 12345678);
        makes(8, "places 78", 21436578);
        Check.due("by places, not bells", made(4, "places 14", 4321), 4231);
    }

    private static void jump() {
        Check.sentence("JUMP i j: the bell at i goes to j, those from there on up to next to i move one PLACE toward i.");
        makes(3, "jump 1 2", 213);
        makes(3, "jump 2 1", 213);
        makes(3, "jump 1 3", 231);
        makes(3, "jump 3 1", 312);
        makes(8, "jump 1 8", 23456781);
        makes(8, "jump 8 1", 81234567);
        makes(8, "jump 2 7", 13456728);
        makes(8, "jump 7 2", 17234568);
        makes(8, "jump 8 7", 12345687);
        Check.due("by places, not bells", made(4, "jump 1 3", 4321), 3241);
    }

    private static void turn() {
        Check.sentence("TURN i j: those from i to j stand the other way about.");
        makes(3, "turn 1 2", 213);
        makes(3, "turn 2 3", 132);
        makes(3, "turn 1 3", 321);
        makes(8, "turn 1 8", 87654321);
        makes(8, "turn 2 8", 18765432);
        makes(8, "turn 7 8", 12345687);
        makes(8, "turn 3 6", 12654378);
        Check.due("by places, not bells", made(4, "turn 1 3", 4312), 1342);
    }

    private static void holdTwiceUndo() {
        Check.sentence("HOLD: nothing. TWICE a change: it, and again. UNDO a change: what makes a ROW the one that the change makes it of.");
        makes(3, "hold", 123);
        Check.due("hold", made(8, "hold", 87654321), 87654321);
        makes(6, "twice hold", 123456);
        makes(6, "undo hold", 123456);
        makes(6, "twice cross", 123456);
        makes(6, "twice jump 1 6", 345612);
        makes(6, "twice twice jump 1 6", 561234);
        makes(6, "undo jump 1 6", 612345);
        makes(6, "undo undo jump 1 6", 234561);
        makes(6, "undo twice jump 1 6", 561234);
        makes(6, "twice undo jump 1 6", 561234);
        Check.due("undone", made(6, "undo jump 1 6", made(6, "jump 1 6", 361524)), 361524);
    }

    private static void some() {
        Check.sentence("SOME ( .. ): one behind the other.");
        makes(6, "(hold)", 123456);
        makes(6, "(jump 1 6)", 234561);
        // 123456 to 213456 to 134562, and the other way about
        makes(6, "(turn 1 2, jump 1 6)", 134562);
        makes(6, "(jump 1 6, turn 1 2)", 324561);
        makes(6, "((jump 1 6, turn 1 2), turn 1 2)", 234561);
        makes(6, "undo (jump 1 6, turn 1 2)", 621345);
        makes(6, "(undo jump 1 6, turn 1 2)", 162345);
        makes(6, "twice (jump 1 6, turn 1 2)", 425613);
    }

    private static void count() {
        Check.sentence("COUNT of a change: 1 of the first five, of others 1 more than of all parts together.");
        String[] changes = {"cross", "places 12", "jump 1 2", "turn 1 2", "hold", "twice hold", "undo cross", "twice undo hold", "(hold)",
            "(hold, cross, hold)", "(twice hold, undo (hold, hold))", "twice twice twice twice twice hold"};
        int[] due = {1, 1, 1, 1, 1, 2, 2, 3, 2, 4, 7, 6};
        for (int i = 0; i < changes.length; i++) {
            BelfryHouse x = new BelfryHouse();
            Check.method(x, changes[i] + ";");
            Check.due("COUNT of " + changes[i], x.about(0, 1), due[i]);
        }
    }

    // ---- texts

    /** THE FAULT of a text; -1 if there is none. */
    private static int fault(int n, String text) {
        BelfryHouse x = new BelfryHouse();
        x.stage(n);
        int answer = Check.method(x, text);
        return answer == 0 ? -1 : -10 - answer;
    }

    private static void good(int n, String text) {
        Check.due("fault of " + text + " on " + n, fault(n, text), -1);
    }

    /** The fault is at the sign ^, which is not itself in the text. */
    private static void bad(int n, String text) {
        int at = text.indexOf('^');
        String told = text.substring(0, at) + text.substring(at + 1);
        Check.due("fault of " + told + " on " + n, fault(n, told), at);
    }

    private static void tapeHasSixHundred() {
        Check.sentence("THE TAPE has 600 bytes at most.");
        BelfryHouse x = new BelfryHouse();
        for (int i = 1; i <= 75; i++) Check.due("eight more", x.feed(8, 0x2020202020202020L), 8 * i);
        Check.due("one more", x.feed(1, 32), FULL);
        Check.due("the end of 600 blanks", x.method(), -610);
        good(6, " ".repeat(595) + "hold;");
        bad(6, " ".repeat(596) + "hold^");
        for (int n = 1; n <= 8; n++) {
            for (int i = 0; i < 74; i++) x.feed(8, 0);
            x.feed(8 - n, 0);
            if (n == 8) Check.due("just 600", x.feed(8, 0), 600);
            else Check.due("one too many of " + (n + 1), x.feed(n + 1, 0), FULL);
            if (n < 8) Check.due("just 600", x.feed(n, 0), 600);
            Check.due("a byte 0", x.method(), -10);
        }
    }

    private static void words() {
        Check.sentence("WORDS (letters a .. z)");
        for (String word : new String[] {"cross", "hold"}) {
            for (int i = 0; i < word.length(); i++) {
                String spoiled = word.substring(0, i) + Character.toUpperCase(word.charAt(i)) + word.substring(i + 1);
                Check.due(spoiled, fault(6, spoiled + ";"), 0);
            }
            for (int i = 0; i < word.length(); i++) {
                String spoiled = word.substring(0, i) + "x" + word.substring(i + 1);
                Check.due(spoiled, fault(6, spoiled + ";"), 0);
            }
            Check.due("a WORD that begins as one", fault(6, word + "s;"), 0);
            Check.due("one that ends as one", fault(6, "a" + word + ";"), 0);
            Check.due("one too short", fault(6, word.substring(1) + ";"), 0);
            Check.due("one too short", fault(6, word.substring(0, word.length() - 1) + ";"), 0);
        }
        bad(6, "^a;");
        bad(6, "^z;");
        bad(6, "^crossz;");
        bad(6, "cross ^a;");
    }

    private static void numbers() {
        Check.sentence("NUMBERS (digits; 8 at most)");
        good(6, "jump 00000001 00000006;");
        bad(6, "jump ^000000001 6;");
        bad(6, "jump 1 ^000000006;");
        bad(6, "jump 1 ^1000000000000000000000006;");
        good(8, "places 12345678;");
        bad(8, "places ^123456789;");
        bad(8, "places ^012345678;");
        // as 32 bits these would be 1 and 6
        bad(6, "jump ^4294967297 6;");
        bad(6, "jump 1 ^4294967302;");
        bad(6, "when ^000000001 at 1 hold;");
        bad(6, "when every ^000000001 0 hold;");
        bad(6, "when every 1 ^000000000 hold;");
        good(6, "when every 00000099 00000098 hold;");
    }

    private static void everyByte() {
        Check.sentence("also a byte that begins none");
        for (int b = 0; b < 256; b++) {
            String one = String.valueOf((char) b);
            boolean letter = b >= 'a' && b <= 'z', blank = b == 32 || b == 10;
            Check.due("byte " + b + " alone", fault(6, one), blank || b == '(' ? 1 : 0);
            Check.due("byte " + b + " behind a WORD", fault(6, "cross" + one + ";"), letter ? 0 : blank ? -1 : b == ';' ? 6 : 5);
            Check.due("byte " + b + " behind a rule", fault(6, "hold;" + one), blank ? -1 : letter || b != '(' ? 5 : 6);
            Check.due("byte " + b + " ahead of a WORD", fault(6, one + "cross;"), blank ? -1 : b == '(' ? 6 : 0);
            boolean digit = b >= '0' && b <= '9';
            Check.due("byte " + b + " behind a NUMBER", fault(6, "turn 1" + one + "2;"), blank ? -1 : digit ? 5 : 6);
        }
    }

    private static void signs() {
        Check.sentence("SIGNS ; ( ) ,");
        good(6, "(hold);");
        good(6, "(hold,hold);(hold);");
        bad(6, "hold^(");
        bad(6, "hold^)");
        bad(6, "hold^,");
        bad(6, "((hold)^;");
        bad(6, "(hold)^);");
        bad(6, "(hold,^,hold);");
        bad(6, "hold;^;");
        // a NUMBER is no SIGN, though it be a SIGN's byte, and a SIGN is no NUMBER
        bad(6, "hold ^59");
        bad(6, "hold ^000000059");
        bad(6, "(hold ^41;");
        bad(6, "(hold ^000000041;");
        bad(6, "(hold ^44 hold);");
        bad(6, "(hold ^000000044 hold);");
        bad(6, "^40 hold);");
        bad(6, "^000000040 hold);");
        bad(6, "when every 99 ^; hold;");
        bad(6, "when every ^) 0 hold;");
        bad(6, "hold^:");
        bad(6, "^[hold];");
        bad(6, "(hold^.hold);");
    }

    private static void blanks() {
        Check.sentence("bytes 32 and 10 between them as may be");
        for (String text : GOOD) {
            good(6, text);
            good(6, text.replace(" ", "\n"));
            good(6, "\n \n" + text.replace(" ", "  \n\n ") + " \n");
        }
        good(6, "cross;hold;");
        good(6, "when 1at2and not even(cross,hold);");
        good(6, "twice(hold)\n;");
        bad(6, "cross^\t;");
        bad(6, "cross^\r\n;");
        bad(6, "cross^\0;");
    }

    private static void asLongAsItCanBe() {
        Check.sentence("each as long as it can be");
        bad(6, "^crosshold;");
        bad(6, "^whenever 1 0 hold;");
        bad(6, "^holdhold;");
        bad(6, "turn ^12;");
        bad(6, "turn 1^;");
        bad(6, "when ^notround hold;");
        bad(6, "when round ^andeven hold;");
        bad(6, "when ^11 at 1 hold;");
        good(6, "when 1 at 1hold;");
        good(6, "places 12;");
        bad(6, "places ^1 2;");
        bad(6, "places 12 ^34;");
    }

    /** What stood on THE TAPE ahead of this text, or behind 600 bytes, is no part of its last TOKEN. */
    private static void endsWhereTheTapeEnds() {
        Check.sentence("or the text's length, if it ends too early");
        String[] olds = {"turn 1 23456;;;", "holdxxxxxxxxxxxx", "             ;;;", "111111111111111", ";;;;;;;;;;;;;;;"};
        String[] texts = {"turn 1 2", "turn 1 ", "hold", "hold ", "", "when even", "(hold", "(hold)", "twice"};
        for (String old : olds) {
            for (String text : texts) {
                BelfryHouse x = new BelfryHouse();
                Check.method(x, old);
                Check.due("fault of " + text + " behind " + old, Check.method(x, text), -10 - text.length());
            }
        }
        for (String text : texts) {
            String full = " ".repeat(600 - text.length()) + text;
            Check.due("fault of 600 bytes, at their end " + text, fault(6, full), 600);
        }
        Check.due("hold; at the end", fault(6, " ".repeat(595) + "hold;"), -1);
        Check.due("a long NUMBER at the end", fault(6, " ".repeat(590) + "1234567890"), 590);
    }

    private static void atLeastOneRule() {
        Check.sentence("method: rule { rule }");
        bad(6, "^");
        bad(6, " \n ^");
        good(6, "hold;");
        good(6, "hold;hold;");
        bad(6, "^;");
        bad(6, "hold;^;");
    }

    private static void rule() {
        Check.sentence("rule: [ \"when\" cond { \"and\" cond } ] change ;");
        good(6, "hold;");
        good(6, "when even hold;");
        good(6, "when even and round hold;");
        bad(6, "when ^hold;");
        bad(6, "when^;");
        bad(6, "when even and ^hold;");
        bad(6, "when even ^round hold;");
        bad(6, "when ^and even hold;");
        bad(6, "when even ^when round hold;");
        bad(6, "when even^,round hold;");
        bad(6, "when even^;");
        bad(6, "^even hold;");
        bad(6, "^and even hold;");
        bad(6, "hold ^when even;");
        bad(6, "hold ^hold;");
        bad(6, "hold^");
        bad(6, "hold; cross^");
    }

    private static void cond() {
        Check.sentence("cond: [ \"not\" ] BELL \"at\" PLACE | .. BELL \"before\" BELL | .. \"even\" | .. \"round\" | .. \"called\" "
            + "| .. \"every\" a b");
        String[] conds = {"1 at 2", "1 before 2", "even", "round", "called", "every 3 2"};
        for (String cond : conds) {
            good(6, "when " + cond + " hold;");
            good(6, "when not " + cond + " hold;");
            bad(6, "when not ^not " + cond + " hold;");
            bad(6, "when " + cond + " ^not hold;");
            for (String other : conds) good(6, "when " + cond + " and not " + other + " hold;");
        }
        bad(6, "when 1 ^2 hold;");
        bad(6, "when 1 ^hold;");
        bad(6, "when 1 ^every 3 2 hold;");
        bad(6, "when 1 at ^before 2 hold;");
        bad(6, "when ^at 1 hold;");
        bad(6, "when not ^before 1 hold;");
        bad(6, "when even ^1 hold;");
        bad(6, "when every 3 2 ^1 hold;");
        bad(6, "when every^, 3 2 hold;");
    }

    private static void changeOfParts() {
        Check.sentence("\"twice\" change | \"undo\" change | ( change { , change } )");
        good(6, "twice cross;");
        good(6, "undo (cross);");
        good(6, "(cross,cross,cross);");
        bad(6, "twice^;");
        bad(6, "undo ^2;");
        bad(6, "twice ^when even hold;");
        bad(6, "(^);");
        bad(6, "(^,hold);");
        bad(6, "(hold,^);");
        bad(6, "(hold ^hold);");
        bad(6, "(hold^;");
        bad(6, "(hold,^;");
        bad(6, "(hold^;);");
        bad(6, "(hold,(hold)^;");
        bad(6, "^)hold;");
        bad(6, "(^when even hold);");
    }

    private static List<String> tokens(String text) {
        return new ArrayList<>(List.of(text.split(" ")));
    }

    private static String join(List<String> tokens) {
        return String.join(" ", tokens);
    }

    private static void endsTooEarly() {
        Check.sentence("or the text's length, if it ends too early");
        for (String text : GOOD) {
            List<String> tokens = tokens(text);
            for (int k = 0; k < tokens.size(); k++) {
                String begun = join(tokens.subList(0, k));
                boolean whole = begun.endsWith(";");
                Check.due("fault of " + begun, fault(6, begun), whole ? -1 : begun.length());
                Check.due("with blanks behind " + begun, fault(6, begun + " \n"), whole ? -1 : begun.length() + 2);
            }
        }
        bad(6, " ".repeat(596) + "hold^");
        bad(6, "hold" + " ".repeat(596) + "^");
    }

    /** Each place of good texts with each TOKEN there is, as PlainBelfry reads it, and by hand where the TOKEN is never right. */
    private static void firstTokenThatCannotStand() {
        Check.sentence("THE FAULT: the first TOKEN that can't stand (its first byte");
        for (int n : new int[] {3, 6, 8}) {
            for (String text : GOOD) {
                for (int k = 0; k < tokens(text).size(); k++) {
                    for (String token : VOCABULARY) {
                        putIn(n, text, k, token, true);
                        putIn(n, text, k, token, false);
                    }
                }
            }
        }
        for (String never : new String[] {"x", "?", "123456789", "wheneven"}) {
            for (int k = 0; k < tokens(GOOD[4]).size(); k++) {
                List<String> tokens = tokens(GOOD[4]);
                tokens.set(k, never);
                int at = join(tokens.subList(0, k)).length() + (k == 0 ? 0 : 1);
                Check.due("fault of " + join(tokens), fault(6, join(tokens)), at);
            }
        }
    }

    private static void putIn(int n, String text, int k, String token, boolean instead) {
        List<String> tokens = tokens(text);
        if (instead) tokens.set(k, token);
        else tokens.add(k, token);
        String made = join(tokens);
        BelfryHouse x = new BelfryHouse();
        PlainBelfry y = new PlainBelfry();
        x.stage(n);
        y.stage(n);
        Check.feed(x, made);
        for (char c : made.toCharArray()) y.feed(1, c);
        Check.due("method " + made + " on " + n, x.method(), y.method());
    }

    private static void anotherWord() {
        Check.sentence("another WORD");
        for (String word : new String[] {"x", "a", "zzzzzzzzzzzz", "rule", "crosss", "befor"}) {
            bad(6, "^" + word + ";");
            bad(6, "when ^" + word + " hold;");
            bad(6, "when not ^" + word + " hold;");
            bad(6, "when 1 ^" + word + " 2 hold;");
            bad(6, "when even ^" + word + " hold;");
            bad(6, "when even and ^" + word + " hold;");
            bad(6, "hold ^" + word + ";");
            bad(6, "hold; ^" + word + ";");
            bad(6, "jump 1 ^" + word + ";");
            bad(6, "turn ^" + word + " 2;");
            bad(6, "places ^" + word + ";");
            bad(6, "twice ^" + word + ";");
            bad(6, "(hold ^" + word + ");");
        }
        bad(6, "when 1 ^and 2 hold;");
        bad(6, "when ^at 2 hold;");
        bad(6, "hold ^cross;");
        bad(6, "jump ^turn 1 2;");
    }

    private static void numberOutOfItsBounds() {
        Check.sentence("a NUMBER that is too long or out of its bounds");
        for (String number : new String[] {"0", "7", "00000000", "99999999", "000000001", "111111111111"}) {
            bad(6, "when ^" + number + " at 1 hold;");
            bad(6, "when 1 at ^" + number + " hold;");
            bad(6, "when 1 before ^" + number + " hold;");
            bad(6, "jump ^" + number + " 1;");
            bad(6, "jump 1 ^" + number + ";");
            bad(6, "turn ^" + number + " 6;");
            bad(6, "turn 1 ^" + number + ";");
            bad(6, "places ^" + number + ";");
        }
        for (String number : new String[] {"0", "100", "99999999", "000000001"}) bad(6, "when every ^" + number + " 0 hold;");
        for (String number : new String[] {"5", "99999999", "000000001"}) bad(6, "when every 5 ^" + number + " hold;");
    }

    private static void bellsAndPlaces() {
        Check.sentence("BELL, PLACE: a NUMBER 1 .. n");
        for (int n = 3; n <= 8; n++) {
            String[] texts = {"when ^? at 1 hold;", "when 1 at ^? hold;", "when ^? before 2 hold;", "when 2 before ^? hold;",
                "jump ^? 2;", "jump 2 ^?;", "turn ^? " + n + ";", "turn 1 ^?;"};
            for (String text : texts) {
                for (int number : new int[] {0, n + 1, 9, 10, 99999999}) {
                    bad(n, text.replace("?", "" + number));
                }
            }
            String[] least = {"when 1 at 1 hold;", "when 1 before 2 hold;", "when 2 before 1 hold;", "jump 1 2;", "jump 2 1;", "turn 1 2;"};
            for (String text : least) good(n, text);
            String[] most = {"when ? at ? hold;", "when ? before 1 hold;", "when 1 before ? hold;", "jump ? 1;", "jump 1 ?;", "turn 1 ?;"};
            for (String text : most) good(n, text.replace("?", "" + n));
        }
    }

    private static void beforeAndJumpDiffer() {
        Check.sentence("\"before\" with two that differ, \"jump\" likewise");
        for (int n = 3; n <= 8; n++) {
            for (int one = 1; one <= n; one++) {
                for (int other = 1; other <= n; other++) {
                    String mark = one == other ? "^" : "";
                    String before = "when " + one + " before " + mark + other + " hold;", jump = "jump " + one + " " + mark + other + ";";
                    if (one == other) bad(n, before);
                    else good(n, before);
                    if (one == other) bad(n, jump);
                    else good(n, jump);
                }
                good(n, "when " + one + " at " + one + " hold;");
            }
        }
    }

    private static void turnRises() {
        Check.sentence("\"turn\" rising");
        for (int n = 3; n <= 8; n++) {
            for (int one = 1; one <= n; one++) {
                for (int other = 1; other <= n; other++) {
                    if (one < other) good(n, "turn " + one + " " + other + ";");
                    else bad(n, "turn " + one + " ^" + other + ";");
                }
            }
        }
    }

    private static void everyBounds() {
        Check.sentence("a 1 .. 99, b 0 .. a - 1");
        for (int a : new int[] {1, 2, 50, 98, 99}) {
            good(6, "when every " + a + " 0 hold;");
            good(6, "when every " + a + " " + (a - 1) + " hold;");
            bad(6, "when every " + a + " ^" + a + " hold;");
            bad(6, "when every " + a + " ^" + (a + 1) + " hold;");
        }
        bad(6, "when every ^0 0 hold;");
        bad(6, "when every ^100 0 hold;");
        bad(6, "when every ^99999999 0 hold;");
        bad(6, "when every 99 ^99999999 hold;");
        bad(6, "when every ^hold;");
        bad(6, "when every 3 ^hold;");
    }

    /** All numbers of up to n + 1 digits, held against the words one by one. */
    private static void digits() {
        Check.sentence("DIGITS: a NUMBER whose digits rise, each 1 .. n, an even number of PLACES between two next ones, "
            + "ahead of the first, behind the last one.");
        good(6, "places 12;");
        bad(6, "places ^21;");
        bad(6, "places ^11;");
        bad(6, "places ^1226;");
        bad(6, "places ^01;");
        bad(6, "places ^0;");
        bad(6, "places ^17;");
        bad(6, "places ^70;");
        bad(6, "places ^13;");
        bad(6, "places ^1356;");
        bad(6, "places ^2;");
        bad(6, "places ^23;");
        bad(6, "places ^1;");
        bad(6, "places ^5;");
        bad(6, "places ^125;");
        good(6, "places 34;");
        good(6, "places 1234;");
        good(6, "places 1456;");
        good(7, "places 1;");
        good(7, "places 7;");
        good(7, "places 1234567;");
        bad(7, "places ^12345678;");
        bad(7, "places ^2;");
        bad(7, "places ^16;");
        for (int n = 3; n <= 5; n++) {
            int most = n == 5 ? 56789 : 6789;
            for (int number = 0; number <= most; number++) {
                String text = "places " + number + ";";
                BelfryHouse x = new BelfryHouse();
                x.stage(n);
                Check.due("fault of " + text + " on " + n, Check.method(x, text) == 0 ? 1 : 0, areDigits(n, "" + number) ? 1 : 0);
            }
        }
    }

    private static boolean areDigits(int n, String digits) {
        int ahead = 0;
        for (int i = 0; i < digits.length(); i++) {
            int place = digits.charAt(i) - '0';
            if (place < 1 || place > n || place <= ahead || (place - ahead - 1) % 2 != 0) return false;
            ahead = place;
        }
        return (n - ahead) % 2 == 0;
    }

    private static void twentyFirstRule() {
        Check.sentence("the 21st rule");
        String twenty = "hold;".repeat(20);
        good(6, twenty);
        good(6, twenty + " \n");
        String[] next = {"hold;", "when even hold;", "x", "?", ";", "1", ")", "hold"};
        for (String one : next) {
            bad(6, twenty + "^" + one);
            bad(6, twenty + "\n ^" + one);
        }
        BelfryHouse x = new BelfryHouse();
        Check.method(x, "hold;".repeat(19) + "cross;");
        Check.due("twenty rules", x.about(0, 0), 20);
        Check.due("the twentieth", x.change(0, 19, 123456), 214365);
    }

    private static void ninthCond() {
        Check.sentence("the ninth cond of one rule");
        String eight = "when even" + " and even".repeat(7);
        good(6, eight + " hold;");
        good(6, eight + " hold;" + eight + " hold;");
        String[] next = {"even hold;", "not even hold;", "1 at 1 hold;", "x", "?", "hold;", "", "9 at 1 hold;"};
        for (String one : next) bad(6, eight + " and ^" + one);
        bad(6, "hold;" + eight + " and ^even hold;");
        String nots = "when not even" + " and not even".repeat(7);
        good(6, nots + " hold;");
        bad(6, nots + " and ^not even hold;");
    }

    private static void fortyFirstChange() {
        Check.sentence("a change of which it would be the 41st in the text");
        String most = "(hold" + ",hold".repeat(38);
        good(6, most + ");");
        for (String one : new String[] {"hold);", "(hold));", "twice hold);", "x", "?", ";", ")", ""}) bad(6, most + ",^" + one);
        bad(6, most + ");^hold;");
        bad(6, most + ");when even ^hold;");
        bad(6, most + ");when even ^");
        bad(6, most + ");^x;");
        good(6, "twice hold;".repeat(20));
        good(6, "twice twice twice hold;".repeat(10));
        bad(6, "twice twice twice hold;".repeat(10) + "^undo hold;");
        bad(6, "twice twice hold;".repeat(13) + "twice ^hold;");
        BelfryHouse x = new BelfryHouse();
        Check.method(x, most + ");");
        Check.due("forty", x.about(0, 1), 40);
        Check.due("a text with a fault counts for none", Check.method(x, most + ",hold);"), -10 - most.length() - 1);
        Check.due("another text", Check.method(x, most + ");"), 1);
    }

    private static void sixOthers() {
        Check.sentence("or that lies in six others (all: at its first TOKEN)");
        for (String about : new String[] {"twice ", "undo ", "("}) {
            String end = about.equals("(") ? ")" : "";
            good(6, about.repeat(5) + "hold" + end.repeat(5) + ";");
            for (String one : new String[] {"hold" + end.repeat(6) + ";", "twice hold;", "x", "?", ";", ""}) bad(6, about.repeat(6) + "^" + one);
        }
        good(6, "(hold,twice undo (hold,undo hold,cross));");
        good(6, "(twice twice twice twice hold,twice twice twice twice hold);");
        bad(6, "(hold,twice undo (hold,undo twice ^hold));");
        bad(6, "(twice twice twice twice hold,twice twice twice twice twice ^hold);");
        good(6, "twice twice twice twice twice hold; twice twice twice twice twice hold;");
    }

    // ---- conds

    /** Whether the cond holds at each of the first rows of a round of n, a digit a row: if it does, the run is STUCK there. */
    private static void holds(int n, String cond, String want) {
        BelfryHouse x = new BelfryHouse();
        x.stage(n);
        String other = cond.startsWith("not ") ? cond.substring(4) : "not " + cond;
        Check.due("method", Check.method(x, "when called jump 1 " + n + "; when " + other + " jump 1 " + n + ";"), 0);
        for (int k = 0; k < want.length(); k++) {
            x.ring(0);
            for (int step = 0; step < k; step++) x.call(step, 1);
            if (k > 0) x.go(k);
            Check.due("STUCK where " + cond + " holds, at " + k, x.go(1), want.charAt(k) == '1' ? 0 : 1);
        }
    }

    private static void atAndBefore() {
        Check.sentence("at, before: by the ROW");
        holds(6, "1 at 1", "1000001");
        holds(6, "1 at 6", "0100000");
        holds(6, "6 at 1", "0000010");
        holds(6, "1 at 2", "0000010");
        holds(6, "1 before 6", "1000001");
        holds(6, "6 before 1", "0111110");
        holds(6, "1 before 2", "1011111");
        holds(6, "5 before 6", "1111101");
        holds(6, "6 before 5", "0000010");
        holds(3, "3 at 2", "0100");
        holds(8, "8 at 8", "100000001");
        holds(8, "8 at 1", "000000010");
    }

    private static void evenRoundCalled() {
        Check.sentence("even, round (it is ROUNDS); called: the STEP is CALLED");
        holds(6, "even", "1010101");
        holds(6, "not even", "0101010");
        holds(6, "round", "1000001");
        holds(6, "not round", "0111110");
        holds(5, "even", "111111");
        BelfryHouse x = new BelfryHouse();
        Check.method(x, "when called hold;");
        x.ring(0);
        x.call(0, 1);
        x.call(2, 1);
        Check.due("STEP 0 alone", x.go(5), 1);
        x.call(1, 1);
        Check.due("STEP 1, and 2", x.go(5), 2);
        BelfryHouse y = new BelfryHouse();
        Check.method(y, "when not round cross;");
        y.ring(0);
        Check.due("ROW 0 is ROUNDS", y.go(1), 0);
    }

    private static void every() {
        Check.sentence("every: STEP less b is a multiple of a");
        for (int a : new int[] {1, 2, 3, 7, 99}) {
            for (int b : new int[] {0, a / 2, a - 1}) {
                BelfryHouse x = new BelfryHouse();
                Check.due("method", Check.method(x, "when every " + a + " " + b + " jump 1 6; hold;"), 0);
                x.ring(0);
                x.go(300);
                int moved = 0;
                for (int step = 0; step < 300; step++) {
                    // STEP less b may be below zero, where no multiple lies between b - a and b
                    if ((step - b) % a == 0) moved++;
                    if (step > 110 && step < 190) continue;
                    Check.due("every " + a + " " + b + " behind STEP " + step, x.rowAt(step + 1) / 100000, moved % 6 + 1);
                }
            }
        }
        BelfryHouse x = new BelfryHouse();
        Check.method(x, "when every 10 9 cross; hold;");
        x.ring(0);
        for (int i = 0; i < 4; i++) x.go(500);
        Check.due("ahead of the last STEP", x.rowAt(1999), 214365);
        Check.due("the last STEP, 1999", x.rowAt(2000), 123456);
    }

    private static void firstRule() {
        Check.sentence("A STEP does the first rule of which all conds hold (those with not: do not).");
        String[] conds = {"round", "even", "not round", "not even", "round and not even", "even and not round", "not called and round and even"};
        boolean[] atRounds = {true, true, false, false, false, false, true};
        for (int i = 0; i < conds.length; i++) {
            BelfryHouse x = new BelfryHouse();
            Check.method(x, "when " + conds[i] + " cross; turn 1 2;");
            x.ring(0);
            x.go(1);
            Check.due(conds[i] + " at ROUNDS", x.rowAt(1), atRounds[i] ? 214365 : 213456);
        }
        BelfryHouse x = new BelfryHouse();
        Check.method(x, "cross; turn 1 2;");
        x.ring(0);
        x.go(1);
        Check.due("without conds the first one", x.rowAt(1), 214365);
        Check.method(x, "when called cross;".repeat(18) + "when not round cross; turn 1 2;");
        x.ring(1);
        x.go(1);
        Check.due("the twentieth", x.rowAt(1), 213456);
        Check.method(x, "when round" + " and round".repeat(6) + " and not round cross; turn 1 2;");
        x.ring(2);
        x.go(1);
        Check.due("the eighth cond, too", x.rowAt(1), 213456);
    }

    // ---- the calls

    private static void eightMethods() {
        Check.sentence("8 METHODS.");
        BelfryHouse x = new BelfryHouse();
        for (int i = 0; i < 8; i++) {
            Check.due("a fault takes no number", Check.method(x, "x;"), -10);
            Check.due("METHOD " + i, Check.method(x, i % 2 == 0 ? "cross;" : "hold;"), i);
        }
        Check.due("the ninth", Check.method(x, "hold;"), FULL);
        for (int i = 0; i < 8; i++) Check.due("METHOD " + i, x.change(i, 0, 123456), i % 2 == 0 ? 214365 : 123456);
        Check.due("the eighth rings", x.ring(7), 0);
        Check.due("a ninth does not", x.ring(8), BAD);
    }

    private static void feedCounts() {
        Check.sentence("The n lowest bytes of a number, the lowest first, come behind THE TAPE: how many it has.");
        for (int n = 1; n <= 8; n++) {
            BelfryHouse x = new BelfryHouse();
            Check.due("feed", x.feed(n, 0x2020202020202020L), n);
            long mixed = 0;
            for (int i = 7; i >= 0; i--) mixed = mixed << 8 | (i < n ? ' ' : 'x');
            Check.due("feed", x.feed(n, mixed), 2 * n);
            Check.due("only those come", x.method(), -10 - 2 * n);
        }
        BelfryHouse x = new BelfryHouse();
        Check.due("the lowest first", x.feed(5, 'h' | 'o' << 8 | 'l' << 16 | (long) 'd' << 24 | (long) ';' << 32), 5);
        Check.due("a METHOD", x.method(), 0);
        Check.due("a number below zero", x.feed(8, 0xbb_20_20_20_20_20_20_20L), 8);
        Check.due("its highest byte is 0xbb", x.method(), -17);
    }

    private static void feedRefuses() {
        Check.sentence("BAD: n is not 1 .. 8. FULL.");
        BelfryHouse x = new BelfryHouse();
        Check.due("0", x.feed(0, 0), BAD);
        Check.due("9", x.feed(9, 0), BAD);
        Check.due("-1", x.feed(-1, 0), BAD);
        Check.due("8", x.feed(8, 0), 8);
        Check.due("1", x.feed(1, 0), 9);
        for (int i = 0; i < 73; i++) x.feed(8, 0);
        Check.due("593 and 8", x.feed(8, 0), FULL);
        Check.due("593 and 7", x.feed(7, 0), 600);
        Check.due("600 and 1", x.feed(1, 0), FULL);
    }

    private static void methodAnswers() {
        Check.sentence("THE TAPE is a METHOD: its number; -10 less the place of THE FAULT.");
        BelfryHouse x = new BelfryHouse();
        Check.due("an empty TAPE", x.method(), -10);
        Check.due("a fault at 0", Check.method(x, "x"), -10);
        Check.due("a fault at 4", Check.method(x, "hold"), -14);
        Check.due("the first", Check.method(x, "hold;"), 0);
        Check.due("a fault at 599", Check.method(x, " ".repeat(599) + "x"), -609);
        Check.due("a fault at 600", Check.method(x, " ".repeat(596) + "hold"), -610);
        Check.due("the second", Check.method(x, "hold;"), 1);
    }

    private static void about() {
        Check.sentence("Of a METHOD: 0 how many rules, 1 the COUNT of all its changes together.");
        BelfryHouse x = new BelfryHouse();
        Check.method(x, "hold;");
        Check.method(x, "twice hold; when even cross; (hold, undo hold);");
        Check.method(x, "hold;".repeat(20));
        Check.due("one rule", x.about(0, 0), 1);
        Check.due("one change", x.about(0, 1), 1);
        Check.due("three rules", x.about(1, 0), 3);
        Check.due("2, 1 and 4", x.about(1, 1), 7);
        Check.due("twenty rules", x.about(2, 0), 20);
        Check.due("twenty changes", x.about(2, 1), 20);
    }

    private static void aboutRefuses() {
        Check.sentence("1 the COUNT of all its changes together. BAD.");
        BelfryHouse x = new BelfryHouse();
        Check.due("none yet", x.about(0, 0), BAD);
        Check.method(x, "hold;");
        Check.due("METHOD -1", x.about(-1, 0), BAD);
        Check.due("METHOD 1", x.about(1, 0), BAD);
        Check.due("METHOD 8", x.about(8, 0), BAD);
        Check.due("what -1", x.about(0, -1), BAD);
        Check.due("what 2", x.about(0, 2), BAD);
    }

    private static void change() {
        Check.sentence("What the change of a rule makes of a ROW (whether it holds or not).");
        BelfryHouse x = new BelfryHouse();
        Check.method(x, "when round cross; when not round turn 1 2; when called and not called hold;");
        Check.due("it holds", x.change(0, 0, 123456), 214365);
        Check.due("it does not", x.change(0, 0, 654321), 563412);
        Check.due("it does not", x.change(0, 1, 123456), 213456);
        Check.due("it holds", x.change(0, 1, 654321), 564321);
        Check.due("it never does", x.change(0, 2, 654321), 654321);
    }

    private static void changeRefuses() {
        Check.sentence("What the change of a rule makes of a ROW (whether it holds or not). BAD.");
        BelfryHouse x = new BelfryHouse();
        Check.due("no METHOD", x.change(0, 0, 123456), BAD);
        Check.method(x, "hold; cross;");
        Check.due("METHOD -1", x.change(-1, 0, 123456), BAD);
        Check.due("METHOD 1", x.change(1, 0, 123456), BAD);
        Check.due("rule -1", x.change(0, -1, 123456), BAD);
        Check.due("rule 1", x.change(0, 1, 123456), 214365);
        Check.due("rule 2", x.change(0, 2, 123456), BAD);
        Check.due("rule 20", x.change(0, 20, 123456), BAD);
        Check.due("no ROW", x.change(0, 0, 123455), BAD);
        Check.due("no ROW", x.change(0, 0, 0), BAD);
    }
}
