/**
 * Section 5 of the terms and promises 23 to 27: a test for each sentence that names a boundary. All rows are ROUNDS here,
 * so that a bell's PLACE is its number, but where another order is the matter.
 */
final class EdgesOfBandsTest {
    private static final int BAD = -1, NONE = -9, NOT_BLOWN = -1000000;
    private static final int STEADY = 0, EARLY = 1, LEARNER = 2, CONDUCTOR = 3, TENOR = 4;

    public static void main(String[] args) {
        firstRingers();
        skillBounds();
        drawWraps();
        hand();
        keen();
        calm();
        tenor();
        learner();
        baseTimes();
        placesOfTheRow();
        equalIsAClash();
        greatestOfAllAhead();
        firstBlowIsNone();
        clashCounts();
        thirdSlip();
        laterSlip();
        othersAreNotLost();
        rowEndsThere();
        conductorOnSomeBell();
        wordsPutItRight();
        fewerThanFiveWords();
        firesOut();
        slipsGoOn();
        begunCountAsBegun();
        ringer();
        ringerRefuses();
        bandBounds();
        bandAnswers();
        bandRefuses();
        blow();
        ringing();
        ringingWithout();
        ringingRefuses();
        slipsRefuses();
        Check.finish();
    }

    private static int draw(int seed, int r, int bell, int skill) {
        int h = seed ^ (64 * r + bell) * 0x9E3779B1;
        h = (h ^ h >>> 15) * 0x85EBCA77;
        return (h >>> 8) % (41 - 2 * skill) - 20 + skill;
    }

    private static BelfryHouse rounds(int n) {
        return Check.rung(n, "hold;", 450);
    }

    /** A seed for which all of the first bells have these DRAWS at ROW r with SKILL 0; those from a to b where two are told. */
    private static int seedWith(int r, int[]... ranges) {
        for (int seed = 0; seed < 10000000; seed++) {
            boolean all = true;
            for (int i = 0; i < ranges.length && all; i++) {
                int hand = draw(seed, r, i + 1, 0);
                all = hand >= ranges[i][0] && hand <= ranges[i][ranges[i].length - 1];
            }
            if (all) return seed;
        }
        throw new IllegalStateException("no such seed");
    }

    private static int[] from(int... ends) {
        return ends;
    }

    private static void setAll(BelfryHouse x, int n, int kind, int skill) {
        for (int bell = 1; bell <= n; bell++) x.ringer(bell, kind, skill);
    }

    // ---- draws and offsets

    private static void firstRingers() {
        Check.sentence("at first kind 0, SKILL 10.");
        for (int n = 3; n <= 8; n++) {
            BelfryHouse x = rounds(n);
            x.band(n, 0, 1);
            for (int bell = 1; bell <= n; bell++) Check.due("bell " + bell, x.blow(0, bell), 20 * bell + draw(n, 0, bell, 10));
            for (int bell = 1; bell <= n; bell++) x.ringer(bell, LEARNER, 0);
            x.stage(n);
            Check.method(x, "hold;");
            x.ring(0);
            x.band(n, 0, 1);
            for (int bell = 1; bell <= n; bell++) Check.due("bell " + bell, x.blow(0, bell), 20 * bell + draw(n, 0, bell, 10));
        }
    }

    private static void skillBounds() {
        Check.sentence("(h shifted right by 8, without sign) % (41 - 2 SKILL) - 20 + SKILL.");
        for (int skill : new int[] {0, 1, 10, 19, 20}) {
            BelfryHouse x = rounds(3);
            setAll(x, 3, STEADY, skill);
            int least = 99, most = -99;
            for (int seed = 0; seed < 230; seed++) {
                x.band(seed, 0, 1);
                int hand = x.blow(0, 1) - 20;
                Check.due("skill " + skill + " seed " + seed, hand, draw(seed, 0, 1, skill));
                least = Math.min(least, hand);
                most = Math.max(most, hand);
            }
            Check.due("the least of skill " + skill, least, skill - 20);
            Check.due("the greatest of skill " + skill, most, 20 - skill);
        }
    }

    private static void drawWraps() {
        Check.sentence("h = seed xor ((64 r + bell) * 0x9E3779B1); h = (h xor (h shifted right by 15, without sign)) * 0x85EBCA77;");
        BelfryHouse x = new BelfryHouse();
        x.stage(8);
        Check.method(x, "hold;");
        x.ring(0);
        for (int i = 0; i < 4; i++) x.go(500);
        setAll(x, 8, STEADY, 0);
        int[] seeds = {Integer.MIN_VALUE, -1, 0, 1, Integer.MAX_VALUE, 0x9E3779B1, 1 << 30, 0x7fff, 0x8000};
        for (int seed : seeds) {
            for (int r : new int[] {0, 1, 1999, 2000}) {
                x.band(seed, r, 1);
                for (int bell = 1; bell <= 8; bell += 7) {
                    int time = 20 * (8 * r + bell + r / 2) + draw(seed, r, bell, 0);
                    Check.due("seed " + seed + " ROW " + r + " bell " + bell, x.blow(0, bell), time);
                }
            }
        }
    }

    /** The OFFSET of bell 1 at ROW 0, when its DRAW is this one. */
    private static int offset(int kind, int drawn) {
        BelfryHouse x = rounds(3);
        x.ringer(1, kind, 0);
        x.band(seedWith(0, from(drawn)), 0, 1);
        return x.blow(0, 1) - 20;
    }

    private static void hand() {
        Check.sentence("HAND's: the DRAW.");
        for (int drawn : new int[] {-20, -1, 0, 1, 20}) Check.due("STEADY " + drawn, offset(STEADY, drawn), drawn);
    }

    private static void keen() {
        Check.sentence("0 STEADY has HAND's; 1 EARLY KEEN's;");
        for (int drawn : new int[] {-20, -1, 0, 15, 20}) Check.due("EARLY " + drawn, offset(EARLY, drawn), drawn - 15);
    }

    private static void calm() {
        Check.sentence("3 CONDUCTOR (a STEADY, too) CALM's;");
        int[] drawn = {-20, -19, -3, -2, -1, 0, 1, 2, 3, 19, 20};
        int[] due = {-10, -9, -1, -1, 0, 0, 0, 1, 1, 9, 10};
        for (int i = 0; i < drawn.length; i++) Check.due("CONDUCTOR " + drawn[i], offset(CONDUCTOR, drawn[i]), due[i]);
    }

    private static void tenor() {
        Check.sentence("twice CONDUCTOR's and once STEADY's, together / 3, cut off toward 0.");
        // -20: (-20 - 20) / 3; -19: (-18 - 19) / 3; -5: (-4 - 5) / 3; -3: (-2 - 3) / 3; -1: (0 - 1) / 3
        int[] drawn = {-20, -19, -5, -3, -2, -1, 0, 1, 2, 3, 4, 5, 19, 20};
        int[] due = {-13, -12, -3, -1, -1, 0, 0, 0, 1, 1, 2, 3, 12, 13};
        for (int i = 0; i < drawn.length; i++) Check.due("TENOR " + drawn[i], offset(TENOR, drawn[i]), due[i]);
    }

    private static void learner() {
        Check.sentence("2 LEARNER (an EARLY) EARLY's and 10 for each SLIP");
        for (int drawn : new int[] {-20, 0, 20}) Check.due("without SLIPS", offset(LEARNER, drawn), drawn - 15);
        BelfryHouse x = rounds(3);
        x.ringer(2, LEARNER, 0);
        x.ringer(1, STEADY, 0);
        for (int slips = 0; slips < 4; slips++) {
            int clash = seedWith(0, from(20), from(-20), from(0, 20));
            x.band(clash, 0, 1);
            Check.due("with " + slips + " SLIPS", x.blow(0, 2), 40 - 20 - 15 + 10 * slips);
            // 20 + 20 and 40 - 35 + 10 slips: from the fourth on there are no more CLASHES
            Check.due("a SLIP behind it", x.slips(2), slips + 1);
        }
        int quiet = seedWith(0, from(-20, 0), from(0), from(20));
        x.band(quiet, 0, 1);
        Check.due("with four SLIPS", x.blow(0, 2), 40 - 15 + 40);
    }

    private static void baseTimes() {
        Check.sentence("blows at 20 * (n r + p + r / 2) and its ringer's OFFSET (r / 2 cut off).");
        for (int n = 3; n <= 8; n++) {
            BelfryHouse x = rounds(n);
            setAll(x, n, STEADY, 20);
            x.band(0, 0, 8);
            int[] halves = {0, 0, 1, 1, 2, 2, 3, 3};
            for (int r = 0; r < 8; r++) {
                Check.due("first of ROW " + r, x.blow(r, 1), 20 * (n * r + 1 + halves[r]));
                Check.due("last of ROW " + r, x.blow(r, n), 20 * (n * r + n + halves[r]));
            }
            x.band(0, 449, 2);
            Check.due("ROW 449, by its number in THE RUN", x.blow(0, 1), 20 * (449 * n + 1 + 224));
            Check.due("ROW 450", x.blow(1, n), 20 * (450 * n + n + 225));
        }
    }

    private static void placesOfTheRow() {
        Check.sentence("The bell at PLACE p of ROW r (r being its number in THE RUN)");
        BelfryHouse x = Check.rung(6, "(jump 1 6, turn 1 2);", 3);
        setAll(x, 6, STEADY, 20);
        x.band(0, 1, 1);
        Check.due("ROW 1", x.rowAt(1), 324561);
        int[] due = {6, 2, 1, 3, 4, 5};
        for (int bell = 1; bell <= 6; bell++) Check.due("bell " + bell, x.blow(0, bell), 20 * (6 + due[bell - 1]));
    }

    // ---- clashes

    private static void equalIsAClash() {
        Check.sentence("a blow that is not behind the greatest of all those ahead of it in the ROW is a CLASH");
        int[][] draws = {{20, 0, 1}, {20, 1, 0}, {20, -1, 1}, {0, -20, 1}, {0, -19, 0}, {-20, -20, 0}};
        for (int[] d : draws) {
            BelfryHouse x = rounds(3);
            setAll(x, 3, STEADY, 0);
            Check.due("a CLASH does not end a RINGING", x.band(seedWith(0, from(d[0]), from(d[1]), from(10, 20)), 0, 1), 1);
            Check.due("times", x.blow(0, 2) - x.blow(0, 1), 20 + d[1] - d[0]);
            Check.due("CLASHES of " + d[0] + " " + d[1], x.ringing(0), d[2]);
            Check.due("SLIPS of bell 1", x.slips(1), 0);
            Check.due("SLIPS of bell 2", x.slips(2), d[2]);
            Check.due("SLIPS of bell 3", x.slips(3), 0);
        }
    }

    private static void greatestOfAllAhead() {
        Check.sentence("the greatest of all those ahead of it in the ROW");
        BelfryHouse x = rounds(3);
        setAll(x, 3, STEADY, 0);
        x.ringer(3, EARLY, 0);
        // 20 + 20, 40 - 10, 60 - 15 - 10: behind neither
        x.band(seedWith(0, from(20), from(-10), from(-10)), 0, 1);
        Check.due("40, 30, 35", x.blow(0, 3), 35);
        Check.due("both clash", x.ringing(0), 2);
        Check.due("bell 2", x.slips(2), 1);
        Check.due("bell 3, though it is behind bell 2", x.slips(3), 1);
        x.band(seedWith(0, from(-10), from(0), from(-5)), 0, 1);
        Check.due("10, 40, 40: as the greatest", x.ringing(0), 1);
        Check.due("bell 3", x.slips(3), 2);
        x.band(seedWith(0, from(20), from(-1), from(-4)), 0, 1);
        Check.due("40, 39, 41: bell 2 alone", x.ringing(0), 1);
        Check.due("bell 3", x.slips(3), 2);
    }

    private static void firstBlowIsNone() {
        Check.sentence("By PLACES: a blow that is not behind the greatest of all those ahead of it in the ROW is a CLASH");
        BelfryHouse x = rounds(3);
        x.ringer(1, EARLY, 0);
        Check.due("a first blow below 0", x.band(seedWith(0, from(-20)), 0, 1), 1);
        Check.due("20 - 15 - 20", x.blow(0, 1), -15);
        Check.due("is no CLASH", x.slips(1), 0);
        for (int seed = 0, seen = 0; seen < 3; seed++) {
            boolean ahead = 60 + draw(seed, 0, 3, 0) >= 80 + draw(seed, 1, 1, 0) - 15;
            if (!ahead) continue;
            setAll(x, 3, STEADY, 20);
            x.ringer(3, STEADY, 0);
            x.ringer(1, EARLY, 0);
            x.band(seed, 0, 2);
            Check.holds("ahead of the last one of the ROW ahead", x.blow(1, 1) <= x.blow(0, 3));
            Check.due("is no CLASH", x.slips(1), 0);
            seen++;
        }
    }

    private static void clashCounts() {
        Check.sentence("it counts as a blow, its ringer gets a SLIP.");
        BelfryHouse x = rounds(3);
        setAll(x, 3, STEADY, 0);
        x.band(seedWith(0, from(20), from(-20), from(10)), 0, 1);
        Check.due("it is told", x.blow(0, 2), 20);
        Check.due("it is heard", x.listen(), 3);
        Check.due("a SLIP", x.slips(2), 1);
        Check.due("a CLASH", x.ringing(0), 1);
    }

    // ---- who is lost

    private static final int CLASH = seedWith(0, from(20), from(-20), from(10, 20));
    private static final int QUIET = seedWith(0, from(-10, 0), from(5, 10), from(10, 20));

    /** Bell 2 has a LEARNER who clashes by the seed CLASH, up to its fourth SLIP; the others as told. */
    private static BelfryHouse learnerAmong(int kindOfOne, int kindOfThree, int slips) {
        BelfryHouse x = rounds(3);
        setAll(x, 3, STEADY, 0);
        x.ringer(2, LEARNER, 0);
        for (int i = 0; i < slips; i++) x.band(CLASH, 0, 1);
        Check.due("SLIPS", x.slips(2), slips);
        x.ringer(1, kindOfOne, 0);
        x.ringer(3, kindOfThree, 0);
        return x;
    }

    private static void thirdSlip() {
        Check.sentence("A LEARNER with a third SLIP");
        BelfryHouse x = learnerAmong(STEADY, STEADY, 0);
        for (int slips = 1; slips <= 2; slips++) {
            Check.due("the ROW counts", x.band(CLASH, 0, 1), 1);
            Check.due("SLIPS", x.slips(2), slips);
            Check.due("not LOST", x.ringing(3), NONE);
            Check.holds("the last one blew", x.blow(0, 3) != NOT_BLOWN);
        }
        Check.due("FIRES OUT", x.band(CLASH, 0, 1), -10);
        Check.due("SLIPS", x.slips(2), 3);
        Check.due("LOST", x.ringing(3), 2);
    }

    private static void laterSlip() {
        Check.sentence("(or a later one: SLIPS of a band that fired out stay) is LOST");
        BelfryHouse x = learnerAmong(STEADY, STEADY, 2);
        x.band(CLASH, 0, 1);
        Check.due("they stay", x.slips(2), 3);
        Check.due("without a CLASH it is not LOST", x.band(QUIET, 0, 1), 1);
        Check.due("not LOST", x.ringing(3), NONE);
        Check.due("they stay", x.slips(2), 3);
        Check.due("the fourth", x.band(CLASH, 0, 1), -10);
        Check.due("the fourth", x.slips(2), 4);
        Check.due("LOST", x.ringing(3), 2);
    }

    private static void othersAreNotLost() {
        Check.sentence("A LEARNER with a third SLIP");
        for (int kind : new int[] {STEADY, EARLY, CONDUCTOR, TENOR}) {
            BelfryHouse x = rounds(3);
            setAll(x, 3, STEADY, 0);
            x.ringer(2, kind, 0);
            // the one ahead is 40, this one 40 and its OFFSET, below 0 for each kind
            for (int slips = 1; slips <= 6; slips++) {
                Check.due("kind " + kind + " is not LOST", x.band(CLASH, 0, 1), 1);
                Check.due("kind " + kind + " has SLIPS", x.slips(2), slips);
                Check.due("kind " + kind + " is not LOST", x.ringing(3), NONE);
                Check.due("no WORDS", x.ringing(1), 0);
            }
        }
    }

    private static void rowEndsThere() {
        Check.sentence("the ROW ends there at once");
        for (int conductor : new int[] {STEADY, CONDUCTOR}) {
            BelfryHouse x = learnerAmong(STEADY, conductor, 2);
            x.band(CLASH, 0, 1);
            Check.due("bell 1 blew", x.blow(0, 1), 40);
            Check.due("the LEARNER blew", x.blow(0, 2), 40 - 20 - 15 + 20);
            Check.due("bell 3 did not", x.blow(0, 3), NOT_BLOWN);
            Check.due("two blows", x.listen(), 2);
            Check.due("one CLASH", x.ringing(0), 1);
        }
        // the last bell of the ROW is LOST: all blew, and still the ROW does not count
        BelfryHouse y = rounds(3);
        setAll(y, 3, STEADY, 0);
        y.ringer(3, LEARNER, 0);
        int last = seedWith(0, from(-20, -10), from(20), from(-20));
        for (int i = 0; i < 2; i++) Check.due("it counts", y.band(last, 0, 1), 1);
        Check.due("it does not", y.band(last, 0, 1), -10);
        Check.due("all blew", y.listen(), 3);
        Check.due("bell 3 blew", y.blow(0, 3), 60 - 20 - 15 + 20);
    }

    private static void conductorOnSomeBell() {
        Check.sentence("if there is a CONDUCTOR or TENOR on some bell");
        for (int kind = 0; kind <= 4; kind++) {
            boolean leads = kind >= 3;
            BelfryHouse x = learnerAmong(STEADY, kind, 2);
            Check.due("kind " + kind + " on the last bell", x.band(CLASH, 0, 1), leads ? 1 : -10);
            Check.due("WORDS", x.ringing(1), leads ? 1 : 0);
            Check.due("the LEARNER's SLIPS", x.slips(2), leads ? 0 : 3);
            Check.due("LOST", x.ringing(3), 2);
        }
        for (int kind = 0; kind <= 4; kind++) {
            // the first bell leads: it is nearer to its time, so that another seed makes the LEARNER clash
            boolean leads = kind >= 3;
            BelfryHouse x = rounds(3);
            setAll(x, 3, STEADY, 0);
            x.ringer(1, kind, 0);
            x.ringer(3, LEARNER, 0);
            x.ringer(2, STEADY, 0);
            int last = seedWith(0, from(0, 5), from(20), from(-20));
            for (int i = 0; i < 2; i++) x.band(last, 0, 1);
            Check.due("kind " + kind + " on the first bell", x.band(last, 0, 1), leads ? 1 : -10);
            Check.due("WORDS", x.ringing(1), leads ? 1 : 0);
        }
        BelfryHouse x = learnerAmong(STEADY, CONDUCTOR, 2);
        x.ringer(3, STEADY, 0);
        Check.due("there was one, but is no more", x.band(CLASH, 0, 1), -10);
        BelfryHouse y = Check.rung(3, "hold;", 1);
        y.stage(8);
        y.ringer(8, TENOR, 0);
        y.stage(3);
        Check.method(y, "hold;");
        y.ring(0);
        setAll(y, 3, STEADY, 0);
        y.ringer(2, LEARNER, 0);
        y.band(CLASH, 0, 1);
        y.band(CLASH, 0, 1);
        Check.due("a bell that is no more leads nobody", y.band(CLASH, 0, 1), -10);
    }

    private static void wordsPutItRight() {
        Check.sentence("the LEARNER's SLIPS are 0, and the ROW counts as rung;");
        BelfryHouse x = learnerAmong(STEADY, CONDUCTOR, 2);
        x.ringer(1, STEADY, 0);
        Check.due("the ROW counts", x.band(CLASH, 0, 1), 1);
        Check.due("SLIPS are 0", x.slips(2), 0);
        for (int slips = 1; slips <= 2; slips++) {
            Check.due("a SLIP again", x.band(CLASH, 0, 1), 1);
            Check.due("SLIPS", x.slips(2), slips);
            Check.due("no WORDS", x.ringing(1), 0);
        }
        Check.due("the ROW counts again", x.band(CLASH, 0, 1), 1);
        Check.due("SLIPS are 0 again", x.slips(2), 0);
        // two LEARNERS: the SLIPS of the one that is not LOST stay
        BelfryHouse y = learnerAmong(STEADY, CONDUCTOR, 2);
        y.ringer(1, LEARNER, 0);
        int before = y.slips(1);
        y.band(seedWith(0, from(20), from(-20, -16), from(10, 20)), 0, 1);
        Check.due("the other's SLIPS", y.slips(1), before);
        BelfryHouse z = learnerAmong(STEADY, STEADY, 2);
        z.ringer(3, CONDUCTOR, 0);
        int rows = z.band(7, 0, 100), begun = z.ringing(2);
        Check.due("ROWS with WORDS count", rows >= 0 ? rows : -10 - rows + 1, begun);
        Check.holds("there were WORDS", z.ringing(1) > 0);
    }

    private static void fewerThanFiveWords() {
        Check.sentence("and there were fewer than 5 WORDS yet in this RINGING, there are WORDS");
        BelfryHouse x = learnerAmong(STEADY, TENOR, 0);
        int fired = x.band(1, 0, 400), begun = x.ringing(2);
        Check.holds("it FIRES OUT at last", fired <= -10);
        Check.due("five WORDS", x.ringing(1), 5);
        Check.due("the sixth time it is LOST", x.slips(2), 3);
        Check.due("all but that ROW count", -10 - fired, begun - 1);
        BelfryHouse y = learnerAmong(STEADY, TENOR, 0);
        Check.due("up to that ROW all is well", y.band(1, 0, begun - 1), begun - 1);
        Check.due("by five WORDS", y.ringing(1), 5);
        Check.due("in the next RINGING there are WORDS again", x.band(CLASH, 0, 1), 1);
        Check.due("one", x.ringing(1), 1);
        Check.due("the LEARNER's SLIPS are 0", x.slips(2), 0);
    }

    private static void firesOut() {
        Check.sentence("else the band FIRES OUT at this ROW: it does not count, and the RINGING ends.");
        BelfryHouse x = learnerAmong(STEADY, STEADY, 0);
        int fired = x.band(3, 0, 400), begun = x.ringing(2);
        Check.holds("it FIRES OUT", fired <= -10 && fired > -400);
        Check.due("the ROWS ahead count", -10 - fired, begun - 1);
        Check.due("no ROW behind is begun", x.blow(begun, 1), NOT_BLOWN);
        Check.holds("the ROW itself is", x.blow(begun - 1, 1) != NOT_BLOWN);
        BelfryHouse y = learnerAmong(STEADY, STEADY, 0);
        Check.due("one ROW less", y.band(3, 0, begun - 1), begun - 1);
        Check.due("nobody is LOST", y.ringing(3), NONE);
        BelfryHouse z = learnerAmong(STEADY, STEADY, 2);
        Check.due("at the first ROW", z.band(CLASH, 0, 3), -10);
        Check.due("one ROW begun", z.ringing(2), 1);
    }

    private static void slipsGoOn() {
        Check.sentence("SLIPS go on from RINGING to RINGING.");
        BelfryHouse x = rounds(3);
        setAll(x, 3, STEADY, 0);
        for (int i = 1; i <= 30; i++) {
            x.band(CLASH, 0, 1);
            Check.due("SLIPS", x.slips(2), i);
            Check.due("CLASHES begin anew", x.ringing(0), 1);
        }
        x.ring(0);
        Check.due("ring leaves them", x.slips(2), 30);
        x.ringer(1, STEADY, 0);
        Check.due("so does another bell's ringer", x.slips(2), 30);
        x.band(CLASH, 0, 0);
        Check.due("and a refused RINGING", x.slips(2), 30);
    }

    private static void begunCountAsBegun() {
        Check.sentence("Whatever happens, ROWS that were begun count as begun.");
        BelfryHouse x = learnerAmong(STEADY, STEADY, 2);
        x.band(CLASH, 0, 1);
        Check.due("one where it FIRES OUT", x.ringing(2), 1);
        x = learnerAmong(STEADY, CONDUCTOR, 2);
        x.band(CLASH, 0, 1);
        Check.due("one with WORDS", x.ringing(2), 1);
        x.band(QUIET, 0, 400);
        Check.due("all begun are told", x.ringing(2), x.ringing(1) < 5 ? 400 : x.ringing(2));
    }

    // ---- the calls

    private static void ringer() {
        Check.sentence("A bell's ringer is another one, without SLIPS: 0.");
        BelfryHouse x = learnerAmong(STEADY, STEADY, 2);
        Check.due("the same kind and skill", x.ringer(2, LEARNER, 0), 0);
        Check.due("without SLIPS", x.slips(2), 0);
        x.band(CLASH, 0, 1);
        Check.due("a SLIP", x.slips(2), 1);
        Check.due("another kind", x.ringer(2, STEADY, 20), 0);
        Check.due("without SLIPS", x.slips(2), 0);
        x.band(CLASH, 0, 1);
        Check.due("of that kind", x.blow(0, 2), 40);
    }

    private static void ringerRefuses() {
        Check.sentence("BAD: no bell, kind, SKILL.");
        for (int n = 3; n <= 8; n++) {
            BelfryHouse x = new BelfryHouse();
            x.stage(n);
            Check.due("bell 0", x.ringer(0, 0, 0), BAD);
            Check.due("bell 1", x.ringer(1, 0, 0), 0);
            Check.due("bell n", x.ringer(n, 0, 0), 0);
            Check.due("bell n + 1", x.ringer(n + 1, 0, 0), BAD);
            Check.due("kind -1", x.ringer(1, -1, 0), BAD);
            Check.due("kind 4", x.ringer(1, 4, 0), 0);
            Check.due("kind 5", x.ringer(1, 5, 0), BAD);
            Check.due("SKILL -1", x.ringer(1, 0, -1), BAD);
            Check.due("SKILL 20", x.ringer(1, 0, 20), 0);
            Check.due("SKILL 21", x.ringer(1, 0, 21), BAD);
        }
    }

    private static void bandBounds() {
        Check.sentence("A RINGING of ROWS from .. from + rows - 1: how many count as rung");
        BelfryHouse x = rounds(6);
        Check.due("one", x.band(0, 0, 1), 1);
        Check.due("the last one", x.band(0, 450, 1), 1);
        Check.due("four hundred", x.band(0, 0, 400), 400);
        Check.due("the last four hundred", x.band(0, 51, 400), 400);
        Check.due("ROW 51 is the first", Math.abs(x.blow(0, 1) - 20 * (6 * 51 + 1 + 25)) <= 10 ? 1 : 0, 1);
        BelfryHouse y = new BelfryHouse();
        Check.method(y, "cross;");
        y.ring(0);
        Check.due("ROW 0 alone", y.band(0, 0, 1), 1);
    }

    private static void bandAnswers() {
        Check.sentence("how many count as rung; -10 less these, if the band FIRES OUT.");
        for (int seed = 0; seed < 60; seed++) {
            BelfryHouse x = learnerAmong(STEADY, STEADY, 0);
            int rows = x.band(seed, 0, 9), begun = x.ringing(2);
            boolean firedOut = x.ringing(3) != NONE;
            Check.due("seed " + seed, rows, firedOut ? -10 - (begun - 1) : 9);
            Check.due("begun", begun, firedOut ? begun : 9);
        }
        Check.due("none count", learnerAmong(STEADY, STEADY, 2).band(CLASH, 0, 9), -10);
    }

    private static void bandRefuses() {
        Check.sentence("BAD: rows is not 1 .. 400, no such ROWS in THE RUN.");
        Check.due("no RUN", new BelfryHouse().band(0, 0, 1), BAD);
        BelfryHouse x = rounds(6);
        Check.due("0", x.band(0, 0, 0), BAD);
        Check.due("-1", x.band(0, 5, -1), BAD);
        Check.due("401", x.band(0, 0, 401), BAD);
        Check.due("from -1", x.band(0, -1, 1), BAD);
        Check.due("behind the last", x.band(0, 451, 1), BAD);
        Check.due("up to one behind the last", x.band(0, 450, 2), BAD);
        Check.due("up to one behind the last", x.band(0, 52, 400), BAD);
        x.ring(0);
        Check.due("those are no more", x.band(0, 0, 2), BAD);
    }

    private static void blow() {
        Check.sentence("Of the latest RINGING: when a bell blew in ROW from + k (-1000000: it did not, or there is none such).");
        BelfryHouse x = rounds(3);
        Check.due("no RINGING", x.blow(0, 1), NOT_BLOWN);
        setAll(x, 3, STEADY, 20);
        x.band(0, 7, 2);
        Check.due("ROW 7", x.blow(0, 1), 20 * (21 + 1 + 3));
        Check.due("ROW 8", x.blow(1, 3), 20 * (24 + 3 + 4));
        Check.due("k 2", x.blow(2, 1), NOT_BLOWN);
        Check.due("k -1", x.blow(-1, 1), NOT_BLOWN);
        Check.due("k 7", x.blow(7, 1), NOT_BLOWN);
        Check.due("bell 0", x.blow(0, 0), NOT_BLOWN);
        Check.due("bell 4", x.blow(0, 4), NOT_BLOWN);
        Check.due("bell -1", x.blow(0, -1), NOT_BLOWN);
        x.band(0, 450, 2);
        Check.due("a refused RINGING is none", x.blow(1, 3), 20 * (24 + 3 + 4));
        x.band(0, 0, 1);
        Check.due("the latest", x.blow(0, 1), 20);
        Check.due("has one ROW", x.blow(1, 1), NOT_BLOWN);
        x = learnerAmong(STEADY, STEADY, 2);
        x.band(CLASH, 0, 2);
        Check.due("it did not blow", x.blow(0, 3), NOT_BLOWN);
        Check.due("no ROW was begun", x.blow(1, 1), NOT_BLOWN);
    }

    private static void ringing() {
        Check.sentence("Of the latest RINGING: 0 CLASHES, 1 WORDS, 2 ROWS begun, 3 the bell that was LOST latest (NONE)");
        BelfryHouse x = learnerAmong(STEADY, CONDUCTOR, 2);
        x.band(CLASH, 0, 1);
        int[] due = {1, 1, 1, 2};
        for (int what = 0; what < 4; what++) Check.due("ringing " + what, x.ringing(what), due[what]);
        x.band(QUIET, 0, 1);
        int[] anew = {0, 0, 1, NONE};
        for (int what = 0; what < 4; what++) Check.due("ringing anew " + what, x.ringing(what), anew[what]);
        int changed = 0;
        for (int seed = 0; seed < 20; seed++) changed += latestLost(seed);
        Check.holds("one was LOST behind another", changed > 20);
    }

    /** Of more and more ROWS the latest that is LOST is the last who blew in its ROW; how often it is another one. */
    private static int latestLost(int seed) {
        int words = 0, lost = NONE, changed = 0;
        for (int rows = 1; rows <= 40; rows++) {
            BelfryHouse x = rounds(4);
            setAll(x, 4, LEARNER, 0);
            x.ringer(1, CONDUCTOR, 0);
            if (x.band(seed, 0, rows) < 0) break;
            if (x.ringing(1) > words) {
                int last = 1;
                while (last < 4 && x.blow(rows - 1, last + 1) != NOT_BLOWN) last++;
                if (last != lost) changed++;
                lost = last;
                words++;
            }
            Check.due("WORDS of " + rows, x.ringing(1), words);
            Check.due("LOST latest of " + rows, x.ringing(3), lost);
        }
        return changed;
    }

    private static void ringingWithout() {
        Check.sentence("0 without (3 NONE).");
        for (int n = 3; n <= 8; n++) {
            BelfryHouse x = rounds(n);
            int[] due = {0, 0, 0, NONE};
            for (int what = 0; what < 4; what++) Check.due("ringing " + what, x.ringing(what), due[what]);
            x.band(0, 0, 400);
            x.stage(n);
            for (int what = 0; what < 4; what++) Check.due("behind stage " + what, x.ringing(what), due[what]);
        }
    }

    private static void ringingRefuses() {
        Check.sentence("0 without (3 NONE). BAD.");
        BelfryHouse x = rounds(3);
        Check.due("-1 without", x.ringing(-1), BAD);
        Check.due("4 without", x.ringing(4), BAD);
        x.band(0, 0, 1);
        Check.due("-1", x.ringing(-1), BAD);
        Check.due("4", x.ringing(4), BAD);
    }

    private static void slipsRefuses() {
        Check.sentence("SLIPS of a bell's ringer. BAD.");
        for (int n = 3; n <= 8; n++) {
            BelfryHouse x = rounds(n);
            Check.due("bell 0", x.slips(0), BAD);
            Check.due("bell 1", x.slips(1), 0);
            Check.due("bell n", x.slips(n), 0);
            Check.due("bell n + 1", x.slips(n + 1), BAD);
            Check.due("bell -1", x.slips(-1), BAD);
        }
    }
}
