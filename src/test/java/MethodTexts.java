import java.util.Random;

/** Makes texts of methods, good ones and ones with a fault somewhere. */
final class MethodTexts {
    private static final String[] WORDS = {"when", "and", "not", "at", "before", "even", "round", "called", "every", "cross", "places",
        "jump", "turn", "hold", "twice", "undo", "(", ")", ",", ";", "0", "1", "2", "3", "6", "9", "99", "100", "01", "000000001", "12345678",
        "x", "Cross", "crosss", "-1", "\t", "\u0000", "\u00e9"};

    private final Random random;
    private final int n;

    MethodTexts(Random random, int n) {
        this.random = random;
        this.n = n;
    }

    String text() {
        StringBuilder text = new StringBuilder();
        int rules = random.nextInt(12) == 0 ? 15 + random.nextInt(7) : 1 + random.nextInt(3);
        for (int i = 0; i < rules; i++) rule(text);
        if (random.nextInt(3) == 0) spoil(text);
        if (text.length() > 600) text.setLength(600);
        return text.toString();
    }

    private void spoil(StringBuilder text) {
        int at = random.nextInt(text.length());
        switch (random.nextInt(4)) {
            case 0: text.deleteCharAt(at); break;
            case 1: text.setLength(at); break;
            case 2: text.insert(at, WORDS[random.nextInt(WORDS.length)]); break;
            default: text.insert(at, " " + WORDS[random.nextInt(WORDS.length)] + " "); break;
        }
    }

    private void add(StringBuilder text, String token) {
        char last = text.length() == 0 ? ';' : text.charAt(text.length() - 1), first = token.charAt(0);
        boolean needs = Character.isLetter(last) && Character.isLetter(first) || Character.isDigit(last) && Character.isDigit(first);
        if (needs || random.nextInt(3) == 0) text.append(random.nextInt(4) == 0 ? "\n" : " ");
        text.append(token);
    }

    private void number(StringBuilder text, int least, int most) {
        int number = least + random.nextInt(Math.max(1, most - least + 1));
        if (random.nextInt(60) == 0) number = least + random.nextInt(2) * (most - least + 2) - 1;
        add(text, (random.nextInt(30) == 0 ? "0" : "") + Math.max(0, number));
    }

    private void rule(StringBuilder text) {
        if (random.nextBoolean()) {
            int conds = random.nextInt(12) == 0 ? 7 + random.nextInt(3) : 1 + random.nextInt(3);
            for (int i = 0; i < conds; i++) {
                add(text, i == 0 ? "when" : "and");
                cond(text);
            }
        }
        change(text, 0);
        add(text, ";");
    }

    private void cond(StringBuilder text) {
        if (random.nextInt(3) == 0) add(text, "not");
        switch (random.nextInt(6)) {
            case 0:
                number(text, 1, n);
                add(text, "at");
                number(text, 1, n);
                break;
            case 1:
                number(text, 1, n);
                add(text, "before");
                number(text, 1, n);
                break;
            case 2: add(text, "even"); break;
            case 3: add(text, "round"); break;
            case 4: add(text, "called"); break;
            default:
                int a = 1 + random.nextInt(random.nextInt(4) == 0 ? 99 : 5);
                add(text, "every");
                number(text, a, a);
                number(text, 0, a - 1);
                break;
        }
    }

    private void change(StringBuilder text, int about) {
        int way = random.nextInt(9);
        if (about > 2 && way > 4 && random.nextInt(3) > 0) way = random.nextInt(5);
        switch (way) {
            case 0: add(text, "cross"); break;
            case 1: add(text, "places"); places(text); break;
            case 2: add(text, "jump"); number(text, 1, n); number(text, 1, n); break;
            case 3: add(text, "turn"); number(text, 1, n - 1); number(text, 2, n); break;
            case 4: add(text, "hold"); break;
            case 5: add(text, "twice"); change(text, about + 1); break;
            case 6: add(text, "undo"); change(text, about + 1); break;
            default: some(text, about); break;
        }
    }

    private void some(StringBuilder text, int about) {
        int parts = random.nextInt(40) == 0 ? 38 + random.nextInt(4) : 1 + random.nextInt(3);
        for (int i = 0; i < parts; i++) {
            add(text, i == 0 ? "(" : ",");
            if (parts > 10) add(text, "hold");
            else change(text, about + 1);
        }
        add(text, ")");
    }

    /** Mostly places with an even number between. */
    private void places(StringBuilder text) {
        StringBuilder digits = new StringBuilder();
        int place = 1 + 2 * random.nextInt(2);
        while (place <= n) {
            digits.append(place);
            place += 1 + 2 * random.nextInt(3);
        }
        if (digits.length() == 0 || random.nextInt(12) == 0) digits.append(random.nextInt(10));
        add(text, digits.toString());
    }
}
