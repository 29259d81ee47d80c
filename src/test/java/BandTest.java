/** Promises 23 to 27: ringer, band, blow, ringing, slips. */
final class BandTest {
    private static final int BAD = -1, NONE = -9, NOT_BLOWN = -1000000;

    public static void main(String[] args) {
        ringer();
        refusedBand();
        timesOfKinds();
        firstRingers();
        slipsMakeLearnersLater();
        blow();
        clashes();
        lostWithoutConductor();
        words();
        fiveWords();
        slipsStay();
        ringing();
        anotherRunMeanwhile();
        Check.finish();
    }

    private static int draw(int seed, int r, int bell, int skill) {
        int h = seed ^ (64 * r + bell) * 0x9E3779B1;
        h = (h ^ h >>> 15) * 0x85EBCA77;
        return (h >>> 8) % (41 - 2 * skill) - 20 + skill;
    }

    private static void ringer() {
        BelfryHouse x = new BelfryHouse();
        int[][] bad = {{0, 0, 0}, {7, 0, 0}, {-1, 0, 0}, {1, -1, 0}, {1, 5, 0}, {1, 0, -1}, {1, 0, 21},
            {Integer.MAX_VALUE, 0, 0}, {1, Integer.MIN_VALUE, 0}, {1, 0, Integer.MAX_VALUE}};
        for (int[] r : bad) Check.due("ringer " + r[0] + " " + r[1] + " " + r[2], x.ringer(r[0], r[1], r[2]), BAD);
        for (int kind = 0; kind < 5; kind++) {
            Check.due("the least skill", x.ringer(1, kind, 0), 0);
            Check.due("the greatest", x.ringer(6, kind, 20), 0);
        }
        x.stage(8);
        Check.due("the eighth bell", x.ringer(8, 4, 20), 0);
        Check.due("no ninth", x.ringer(9, 0, 0), BAD);
    }

    private static void refusedBand() {
        BelfryHouse x = new BelfryHouse();
        Check.due("no run", x.band(0, 0, 1), BAD);
        x = Check.rung(6, "cross;", 450);
        Check.due("a ringing", x.band(0, 0, 3), 3);
        int[][] bad = {{0, 0}, {0, -1}, {0, 401}, {-1, 3}, {451, 1}, {450, 2}, {52, 400}, {Integer.MAX_VALUE, 400},
            {Integer.MIN_VALUE, 1}, {0, Integer.MAX_VALUE}, {Integer.MAX_VALUE, Integer.MAX_VALUE}};
        for (int[] b : bad) Check.due("band " + b[0] + " " + b[1], x.band(9, b[0], b[1]), BAD);
        Check.due("the latest stands", x.ringing(2), 3);
        Check.due("the latest blows", x.blow(2, 1), 20 * (2 * 6 + 1 + 1) + draw(0, 2, 1, 10));
        Check.due("400 rows", x.band(9, 51, 400), 400);
        Check.due("the last row", x.band(9, 450, 1), 1);
    }

    private static int offset(int kind, int hand) {
        switch (kind) {
            case 1:
            case 2: return hand - 15;
            case 3: return hand / 2;
            case 4: return (2 * (hand / 2) + hand) / 3;
            default: return hand;
        }
    }

    private static void timesOfKinds() {
        for (int n = 3; n <= 8; n += 5) {
            for (int kind = 0; kind < 5; kind++) {
                for (int skill = 0; skill <= 20; skill += 4) {
                    BelfryHouse x = Check.rung(n, "jump 1 3;", 20);
                    for (int bell = 1; bell <= n; bell++) x.ringer(bell, bell == 3 ? 3 : kind, skill);
                    for (int seed = -3; seed < 4; seed++) timesOfRow(x, n, kind, skill, seed);
                }
            }
        }
    }

    private static void timesOfRow(BelfryHouse x, int n, int kind, int skill, int seed) {
        int r = seed + 10;
        for (int bell = 1; bell <= n; bell++) x.ringer(bell, bell == 3 ? 3 : kind, skill);
        Check.due("one row", x.band(seed, r, 1), 1);
        String row = Integer.toString(x.rowAt(r));
        for (int bell = 1; bell <= n; bell++) {
            int p = row.indexOf('0' + bell) + 1;
            int due = 20 * (n * r + p + r / 2) + offset(bell == 3 ? 3 : kind, draw(seed, r, bell, skill));
            Check.due("kind " + kind + " skill " + skill + " bell " + bell, x.blow(0, bell), due);
        }
    }

    private static void firstRingers() {
        for (int n = 3; n <= 8; n++) {
            BelfryHouse x = new BelfryHouse();
            for (int bell = 1; bell <= 6; bell++) x.ringer(bell, 4, 1);
            x.stage(n);
            Check.method(x, "hold;");
            x.ring(0);
            Check.due("rounds", x.band(77, 0, 1), 1);
            for (int bell = 1; bell <= n; bell++) Check.due("steady of skill 10", x.blow(0, bell), 20 * bell + draw(77, 0, bell, 10));
        }
    }

    private static void slipsMakeLearnersLater() {
        BelfryHouse x = learners(3);
        int seen = 0;
        for (int seed = 0; seed < 300; seed++) {
            int[] slips = new int[6];
            for (int bell = 1; bell <= 5; bell++) slips[bell] = x.slips(bell);
            int r = seed % 100;
            x.band(seed, r, 1);
            for (int bell = 1; bell <= 5; bell++) {
                if (x.blow(0, bell) == NOT_BLOWN) continue;
                int p = Integer.toString(x.rowAt(r)).indexOf('0' + bell) + 1;
                int hand = x.blow(0, bell) - 20 * (6 * r + p + r / 2);
                Check.due("learner with " + slips[bell] + " slips", hand, draw(seed, r, bell, 0) - 15 + 10 * slips[bell]);
                if (slips[bell] == 2) seen++;
            }
            int lost = x.ringing(3);
            if (lost != NONE) Check.due("after words the slips are 0", x.slips(lost), 0);
        }
        Check.holds("there were slips", seen > 20);
    }

    private static void blow() {
        BelfryHouse x = new BelfryHouse();
        Check.due("no ringing", x.blow(0, 1), NOT_BLOWN);
        x = Check.rung(6, "cross;", 9);
        for (int bell = 1; bell <= 6; bell++) x.ringer(bell, 0, 20);
        Check.due("a ringing", x.band(1, 4, 2), 2);
        Check.due("skill 20 is never off", x.blow(0, 1), 20 * (24 + 1 + 2));
        Check.due("the last of the row", x.blow(0, 6), 20 * (24 + 6 + 2));
        Check.due("row 5", x.blow(1, 1), 20 * (30 + 2 + 2));
        Check.due("none such", x.blow(2, 1), NOT_BLOWN);
        Check.due("below", x.blow(-1, 1), NOT_BLOWN);
        Check.due("far", x.blow(Integer.MAX_VALUE, 1), NOT_BLOWN);
        Check.due("far below", x.blow(Integer.MIN_VALUE, 1), NOT_BLOWN);
        Check.due("no bell 0", x.blow(0, 0), NOT_BLOWN);
        Check.due("no bell 7", x.blow(0, 7), NOT_BLOWN);
        Check.due("no bell", x.blow(0, Integer.MIN_VALUE), NOT_BLOWN);
        x.stage(6);
        Check.due("none after stage", x.blow(0, 1), NOT_BLOWN);
    }

    /** Rings a row by hand: its clashes, and whose. */
    private static void clashes() {
        BelfryHouse x = Check.rung(6, "(cross, jump 1 4);", 60);
        for (int bell = 1; bell <= 6; bell++) x.ringer(bell, bell % 2 == 0 ? 0 : 1, 0);
        int[] slips = new int[7];
        int all = 0, equal = 0;
        for (int seed = 0; seed < 400; seed++) {
            int clashes = 0, r = seed % 60;
            Check.due("one row", x.band(seed, r, 1), 1);
            String row = Integer.toString(x.rowAt(r));
            for (int p = 2; p <= 6; p++) {
                int bell = row.charAt(p - 1) - '0', greatest = Integer.MIN_VALUE;
                for (int q = 1; q < p; q++) greatest = Math.max(greatest, x.blow(0, row.charAt(q - 1) - '0'));
                if (x.blow(0, bell) > greatest) continue;
                if (x.blow(0, bell) == greatest) equal++;
                slips[bell]++;
                clashes++;
            }
            Check.due("clashes", x.ringing(0), clashes);
            all += clashes;
        }
        Check.holds("there were clashes", all > 50);
        Check.holds("there were some of equal times", equal > 3);
        for (int bell = 1; bell <= 6; bell++) Check.due("slips go on", x.slips(bell), slips[bell]);
        x.ringer(2, 0, 0);
        Check.due("another ringer has none", x.slips(2), 0);
        Check.due("the others have theirs", x.slips(4), slips[4]);
        Check.due("no bell 0", x.slips(0), BAD);
        Check.due("no bell 7", x.slips(7), BAD);
        Check.due("no bell", x.slips(Integer.MIN_VALUE), BAD);
        Check.due("a refused ringer", x.ringer(4, 0, 21), BAD);
        Check.due("leaves the slips", x.slips(4), slips[4]);
    }

    private static BelfryHouse learners(int conductor) {
        BelfryHouse x = Check.rung(6, "cross;", 500);
        for (int bell = 1; bell <= 6; bell++) x.ringer(bell, 2, 0);
        if (conductor > 0) x.ringer(6, conductor, 0);
        return x;
    }

    private static void lostWithoutConductor() {
        for (int seed = 0; seed < 40; seed++) {
            BelfryHouse x = learners(0);
            int rung = -10 - x.band(seed, 0, 400);
            int begun = x.ringing(2), lost = x.ringing(3);
            Check.holds("the band fires out", rung >= 0);
            Check.due("the row that it fired out in counts as begun", begun, rung + 1);
            Check.due("no words", x.ringing(1), 0);
            Check.due("its third slip", x.slips(lost), 3);
            Check.holds("the lost one blew", x.blow(begun - 1, lost) != NOT_BLOWN);
            boolean behind = false;
            for (char bell : Integer.toString(x.rowAt(begun - 1)).toCharArray()) {
                if (behind) Check.due("those behind did not", x.blow(begun - 1, bell - '0'), NOT_BLOWN);
                behind |= bell - '0' == lost;
            }
            int sum = 0;
            for (int bell = 1; bell <= 6; bell++) sum += x.slips(bell);
            Check.due("each clash is a slip", x.ringing(0), sum);
        }
    }

    private static void words() {
        for (int kind = 0; kind < 5; kind++) {
            BelfryHouse x = learners(kind);
            int seed = 0;
            while (seed < 200 && x.ringing(3) == NONE) x.band(seed++, 0, 5);
            int lost = x.ringing(3), begun = x.ringing(2);
            boolean led = kind >= 3;
            Check.due("words with kind " + kind, x.ringing(1) > 0 ? 1 : 0, led ? 1 : 0);
            if (led) Check.due("all five rows were begun", begun, 5);
            if (led) Check.due("all count as rung", x.band(seed - 1, 0, 1) >= 0 ? 1 : 0, 1);
            Check.holds("somebody was lost", lost >= 1 && lost <= 6);
        }
    }

    private static void fiveWords() {
        BelfryHouse x = learners(4);
        int rung = x.band(12, 0, 400);
        Check.due("words", x.ringing(1), 5);
        Check.due("it fires out at the sixth", x.ringing(2), -10 - rung + 1);
        Check.due("the sixth is not put right", x.slips(x.ringing(3)), 3);
        x.ringer(x.ringing(3), 2, 0);
        x.band(13, 0, 4);
        Check.holds("words begin anew in a ringing", x.ringing(1) < 5);
        x.ringer(6, 2, 0);
        x.ringer(1, 3, 20);
        x.band(14, 0, 400);
        Check.due("any bell may have the conductor", x.ringing(1), 5);
    }

    private static void slipsStay() {
        BelfryHouse x = learners(0);
        x.band(0, 0, 400);
        int lost = x.ringing(3), before = x.slips(lost);
        int seed = 1;
        while (seed < 300 && (x.ringing(3) != lost || x.slips(lost) == before)) x.band(seed++, 0, 50);
        Check.due("a fourth slip is one too many, too", x.slips(lost), before + 1);
        Check.holds("the row does not count", x.band(seed, 0, 400) <= -10);
    }

    private static void ringing() {
        BelfryHouse x = new BelfryHouse();
        Check.due("nobody", x.ringing(3), NONE);
        Check.due("ringing -1", x.ringing(-1), BAD);
        Check.due("ringing 4", x.ringing(4), BAD);
        x = Check.rung(6, "cross;", 9);
        for (int bell = 1; bell <= 6; bell++) x.ringer(bell, 2, 20);
        Check.due("all blow alike", x.band(0, 0, 10), 10);
        Check.due("no clash", x.ringing(0), 0);
        Check.due("ten rows", x.ringing(2), 10);
        Check.due("nobody was lost", x.ringing(3), NONE);
        for (int bell = 2; bell <= 6; bell++) x.ringer(bell, 0, 20);
        x.ringer(1, 0, 0);
        x.band(5, 0, 1);
        Check.due("one row", x.ringing(2), 1);
    }

    private static void anotherRunMeanwhile() {
        BelfryHouse x = Check.rung(6, "cross;", 9);
        x.band(3, 1, 2);
        int first = x.blow(0, 2), last = x.blow(1, 6);
        Check.method(x, "turn 1 6;");
        x.ring(1);
        x.go(5);
        Check.due("the ringing is as it was", x.blow(0, 2), first);
        Check.due("the ringing is as it was", x.blow(1, 6), last);
        Check.due("all is heard", x.listen(), 12);
        Check.due("by the rows that were rung", x.heard(0), 214365);
    }
}
