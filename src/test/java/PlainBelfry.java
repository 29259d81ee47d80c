import java.util.ArrayList;
import java.util.Arrays;
import java.util.HashSet;
import java.util.LinkedHashMap;
import java.util.List;
import java.util.Map;
import java.util.Set;
import java.util.TreeSet;
import java.util.function.UnaryOperator;
import java.util.regex.Matcher;
import java.util.regex.Pattern;

/**
 * The document told a second time in the plainest Java, with the whole library: lists, sets, doubles, real arrays and
 * what the machine throws. It is slow and knows nothing of how BelfryHouse does it; tests hold the two together.
 */
final class PlainBelfry {
    private static final int BAD = -1, NO = -2, FULL = -3, NULL = -4, SIZE = -5, INDEX = -6, CAST = -7, STORE = -8, NONE = -9;

    private int n = 6;
    private String tape = "";
    private List<List<Rule>> methods;
    private List<Integer> counts;
    private List<Rule> running;
    private List<int[]> rows;
    private List<Boolean> madeCalled;
    private Set<Integer> called;
    private boolean stuck;
    private List<int[]> generators;
    private List<Integer> heads;
    private Ringer[] ringers;
    private Ringing ringing;
    private List<Blow> blows;
    private Object[] boards;

    PlainBelfry() {
        stage(6);
    }

    int stage(int bells) {
        if (bells < 3 || bells > 8) return BAD;
        int was = n;
        n = bells;
        methods = new ArrayList<>();
        counts = new ArrayList<>();
        running = null;
        rows = new ArrayList<>();
        generators = new ArrayList<>();
        heads = new ArrayList<>();
        ringers = new Ringer[n + 1];
        for (int i = 1; i <= n; i++) ringers[i] = new Steady(10);
        ringing = new Ringing();
        blows = new ArrayList<>();
        boards = new Object[8];
        return was;
    }

    // ---- rows, as arrays of bells

    private int[] rounds() {
        int[] row = new int[n];
        for (int i = 0; i < n; i++) row[i] = i + 1;
        return row;
    }

    private int[] row(int number) {
        String digits = Integer.toString(number);
        if (digits.length() != n) return null;
        int[] row = new int[n];
        Set<Integer> seen = new HashSet<>();
        for (int i = 0; i < n; i++) {
            row[i] = digits.charAt(i) - '0';
            if (row[i] < 1 || row[i] > n || !seen.add(row[i])) return null;
        }
        return row;
    }

    private static int number(int[] row) {
        StringBuilder digits = new StringBuilder();
        for (int bell : row) digits.append(bell);
        return Integer.parseInt(digits.toString());
    }

    private int[] times(int[] a, int[] b) {
        int[] row = new int[n];
        for (int i = 0; i < n; i++) row[i] = a[b[i] - 1];
        return row;
    }

    private int[] inverseOf(int[] a) {
        int[] row = new int[n];
        for (int i = 0; i < n; i++) row[a[i] - 1] = i + 1;
        return row;
    }

    private static final Map<Integer, List<Integer>> ALL_ROWS = new LinkedHashMap<>();

    private static void everyRow(String ahead, int n, List<Integer> into) {
        if (ahead.length() == n) into.add(Integer.parseInt(ahead));
        for (char bell = '1'; bell < '1' + n; bell++) {
            if (ahead.indexOf(bell) < 0) everyRow(ahead + bell, n, into);
        }
    }

    private List<Integer> allRows() {
        if (!ALL_ROWS.containsKey(n)) {
            List<Integer> all = new ArrayList<>();
            everyRow("", n, all);
            ALL_ROWS.put(n, all);
        }
        return ALL_ROWS.get(n);
    }

    private int rank(int[] row) {
        return java.util.Collections.binarySearch(allRows(), number(row));
    }

    private boolean even(int[] row) {
        boolean even = true;
        for (int i = 0; i < n; i++) {
            for (int j = i + 1; j < n; j++) even ^= row[i] > row[j];
        }
        return even;
    }

    int product(int a, int b) {
        return row(a) == null || row(b) == null ? BAD : number(times(row(a), row(b)));
    }

    int inverse(int a) {
        return row(a) == null ? BAD : number(inverseOf(row(a)));
    }

    int told(int number, int what) {
        int[] row = row(number);
        if (row == null || what < 0 || what > 2) return BAD;
        if (what == 1) return rank(row);
        if (what == 2) return even(row) ? 1 : 0;
        int order = 1;
        for (int[] power = row; !Arrays.equals(power, rounds()); power = times(power, row)) order++;
        return order;
    }

    int ranked(int rank) {
        return rank < 0 || rank >= allRows().size() ? BAD : allRows().get(rank);
    }

    // ---- methods

    private interface Cond {
        boolean holds(int[] row, int step, boolean called);
    }

    private static final class Rule {
        final List<Cond> conds = new ArrayList<>();
        UnaryOperator<int[]> change;
    }

    private static final class Fault extends Exception {
        private static final long serialVersionUID = 1;
        final int at;

        Fault(int at) {
            this.at = at;
        }
    }

    private final class Reading {
        final List<String> tokens = new ArrayList<>();
        final List<Integer> places = new ArrayList<>();
        final List<Rule> rules = new ArrayList<>();
        int next = 0;
        int changes = 0;

        Reading(String text) {
            Matcher m = Pattern.compile("[ \\n]*([a-z]+|[0-9]+|[^ \\n])").matcher(text);
            while (m.find()) {
                tokens.add(m.group(1));
                places.add(m.start(1));
            }
            tokens.add("");
            places.add(text.length());
        }

        String token() {
            return tokens.get(next);
        }

        Fault fault() {
            return new Fault(places.get(next));
        }

        boolean skip(String token) {
            if (!token().equals(token)) return false;
            next++;
            return true;
        }

        int number(int least, int most) throws Fault {
            if (!token().matches("[0-9]{1,8}")) throw fault();
            int number = Integer.parseInt(token());
            if (number < least || number > most) throw fault();
            next++;
            return number;
        }

        void method() throws Fault {
            do {
                if (rules.size() == 20) throw fault();
                rule();
            } while (!token().isEmpty());
        }

        void rule() throws Fault {
            Rule rule = new Rule();
            if (skip("when")) {
                do {
                    if (rule.conds.size() == 8) throw fault();
                    rule.conds.add(cond());
                } while (skip("and"));
            }
            rule.change = change(0);
            if (!skip(";")) throw fault();
            rules.add(rule);
        }

        Cond cond() throws Fault {
            if (!skip("not")) return plainCond();
            Cond cond = plainCond();
            return (row, step, called) -> !cond.holds(row, step, called);
        }

        Cond plainCond() throws Fault {
            if (skip("even")) return (row, step, called) -> even(row);
            if (skip("round")) return (row, step, called) -> Arrays.equals(row, rounds());
            if (skip("called")) return (row, step, called) -> called;
            if (skip("every")) {
                int a = number(1, 99);
                int b = number(0, a - 1);
                return (row, step, called) -> Math.floorMod(step - b, a) == 0;
            }
            int bell = number(1, n);
            if (skip("at")) {
                int place = number(1, n);
                return (row, step, called) -> row[place - 1] == bell;
            }
            if (!skip("before")) throw fault();
            int at = next;
            int other = number(1, n);
            next = at;
            if (other == bell) throw fault();
            next++;
            return (row, step, called) -> {
                for (int one : row) {
                    if (one == bell || one == other) return one == bell;
                }
                return false;
            };
        }

        UnaryOperator<int[]> change(int about) throws Fault {
            if (changes == 40 || about == 6) throw fault();
            changes++;
            if (skip("hold")) return row -> row.clone();
            if (skip("cross")) return row -> byTwos(row, "");
            if (skip("places")) return places();
            if (skip("jump")) {
                int i = number(1, n);
                if (token().matches("0*" + i)) throw fault();
                int j = number(1, n);
                return row -> jumped(row, i, j);
            }
            if (skip("turn")) {
                int i = number(1, n);
                int j = number(i + 1, n);
                return row -> turned(row, i, j);
            }
            if (skip("twice")) {
                UnaryOperator<int[]> part = change(about + 1);
                return row -> part.apply(part.apply(row));
            }
            if (skip("undo")) {
                UnaryOperator<int[]> part = change(about + 1);
                return row -> undone(row, part);
            }
            if (!skip("(")) throw fault();
            List<UnaryOperator<int[]>> parts = new ArrayList<>();
            do parts.add(change(about + 1)); while (skip(","));
            if (!skip(")")) throw fault();
            return row -> {
                int[] made = row;
                for (UnaryOperator<int[]> part : parts) made = part.apply(made);
                return made;
            };
        }

        UnaryOperator<int[]> places() throws Fault {
            String digits = token();
            if (!digits.matches("[1-" + n + "]{1,8}")) throw fault();
            int ahead = 0;
            for (char d : (digits + (char) ('0' + n + 1)).toCharArray()) {
                int place = d - '0';
                if (place <= ahead || (place - ahead - 1) % 2 != 0) throw fault();
                ahead = place;
            }
            next++;
            return row -> byTwos(row, digits);
        }
    }

    private static int[] byTwos(int[] row, String stay) {
        int[] made = row.clone();
        for (int i = 0; i + 1 < row.length; i++) {
            if (stay.indexOf('1' + i) >= 0 || stay.indexOf('2' + i) >= 0) continue;
            made[i] = row[i + 1];
            made[i + 1] = row[i];
            i++;
        }
        return made;
    }

    private static int[] jumped(int[] row, int i, int j) {
        List<Integer> bells = new ArrayList<>();
        for (int bell : row) bells.add(bell);
        bells.add(j - 1, bells.remove(i - 1));
        return bells.stream().mapToInt(bell -> bell).toArray();
    }

    private static int[] turned(int[] row, int i, int j) {
        int[] made = row.clone();
        for (int k = i; k <= j; k++) made[k - 1] = row[i + j - k - 1];
        return made;
    }

    /** The row of which the part makes the given one: the part moves bells by their places alone. */
    private int[] undone(int[] row, UnaryOperator<int[]> part) {
        int[] cameFrom = part.apply(rounds());
        int[] made = new int[n];
        for (int i = 0; i < n; i++) made[cameFrom[i] - 1] = row[i];
        if (!Arrays.equals(part.apply(made), row)) throw new IllegalStateException("undo");
        return made;
    }

    int feed(int count, long bytes) {
        if (count < 1 || count > 8) return BAD;
        if (tape.length() + count > 600) return FULL;
        for (int i = 0; i < count; i++) tape += (char) (bytes >>> 8 * i & 255);
        return tape.length();
    }

    int method() {
        String text = tape;
        tape = "";
        if (methods.size() == 8) return FULL;
        Reading reading = new Reading(text);
        try {
            reading.method();
        } catch (Fault fault) {
            return -10 - fault.at;
        }
        methods.add(reading.rules);
        counts.add(reading.changes);
        return methods.size() - 1;
    }

    private boolean isMethod(int method) {
        return method >= 0 && method < methods.size();
    }

    int about(int method, int what) {
        if (!isMethod(method) || what < 0 || what > 1) return BAD;
        return what == 0 ? methods.get(method).size() : counts.get(method);
    }

    int change(int method, int rule, int number) {
        if (!isMethod(method) || rule < 0 || rule >= methods.get(method).size() || row(number) == null) return BAD;
        return number(methods.get(method).get(rule).change.apply(row(number)));
    }

    // ---- the run

    int ring(int method) {
        if (!isMethod(method)) return BAD;
        running = methods.get(method);
        rows = new ArrayList<>(List.of(rounds()));
        madeCalled = new ArrayList<>(List.of(false));
        called = new HashSet<>();
        stuck = false;
        return 0;
    }

    int call(int step, int on) {
        if (step < 0 || step > 1999 || on != 0 && on != 1) return BAD;
        if (running == null) return NO;
        if (on == 1) called.add(step);
        else called.remove(step);
        return 0;
    }

    int go(int steps) {
        if (steps < 1 || steps > 500) return BAD;
        if (running == null) return NO;
        for (int done = 0; done < steps; done++) {
            int step = rows.size() - 1;
            if (step == 2000) return done;
            int[] row = rows.get(step);
            Rule rule = running.stream()
                .filter(r -> r.conds.stream().allMatch(c -> c.holds(row, step, called.contains(step))))
                .findFirst().orElse(null);
            stuck = rule == null;
            if (stuck) return done;
            rows.add(rule.change.apply(row));
            madeCalled.add(called.contains(step));
        }
        return steps;
    }

    int rowAt(int k) {
        return k < 0 || k >= rows.size() ? BAD : number(rows.get(k));
    }

    int run(int what) {
        if (what < 0 || what > 3) return BAD;
        if (running == null) return NO;
        if (what == 0) return rows.size() - 1;
        if (what == 1) return stuck ? 1 : 0;
        if (what == 2) {
            for (int k = 1; k < rows.size(); k++) {
                if (Arrays.equals(rows.get(k), rounds())) return k;
            }
            return NONE;
        }
        Set<Integer> different = new HashSet<>();
        for (int k = 1; k < rows.size(); k++) different.add(rowAt(k));
        return different.size();
    }

    int truth(int times, int side) {
        if (times < 1 || times > 9 || side < 0 || side > 1) return BAD;
        if (running == null) return NO;
        for (int k = 1; k < rows.size(); k++) {
            int before = 0, latest = NONE;
            for (int i = 1; i < k; i++) {
                if (Arrays.equals(rows.get(i), rows.get(k))) {
                    before++;
                    latest = i;
                }
            }
            if (before >= times) return side == 0 ? k : latest;
        }
        return NONE;
    }

    // ---- groups and heads

    int generator(int number) {
        if (row(number) == null) return BAD;
        if (n > 6) return NO;
        if (generators.size() == 6) return FULL;
        generators.add(row(number));
        return generators.size();
    }

    int free() {
        int had = generators.size();
        generators.clear();
        return had;
    }

    private Set<Integer> members() {
        Set<Integer> all = new HashSet<>(Set.of(number(rounds())));
        List<Integer> open = new ArrayList<>(all);
        while (!open.isEmpty()) {
            int[] member = row(open.remove(open.size() - 1));
            for (int[] generator : generators) {
                int made = number(times(member, generator));
                if (all.add(made)) open.add(made);
            }
        }
        return all;
    }

    int group() {
        return n > 6 ? NO : members().size();
    }

    int coset(int number) {
        if (row(number) == null) return BAD;
        if (n > 6) return NO;
        if (members().contains(number)) return -10;
        int least = Integer.MAX_VALUE;
        for (int g : members()) least = Math.min(least, rank(times(row(g), row(number))));
        return least;
    }

    int heads(int a, int b) {
        if (a < 0 || b >= rows.size() || b < a || b - a + 1 > 60) return BAD;
        TreeSet<Integer> found = new TreeSet<>();
        for (int i = a; i <= b; i++) {
            for (int j = a; j <= b; j++) found.add(number(times(rows.get(j), inverseOf(rows.get(i)))));
        }
        heads = new ArrayList<>(found);
        return heads.size();
    }

    int head(int k) {
        return k < 0 || k >= heads.size() ? BAD : heads.get(k);
    }

    // ---- the band

    private abstract static class Ringer {
        final int skill;
        int slips = 0;

        Ringer(int skill) {
            this.skill = skill;
        }

        abstract int offset(int draw);

        boolean isLost() {
            return false;
        }
    }

    private static class Steady extends Ringer {
        Steady(int skill) {
            super(skill);
        }

        @Override
        int offset(int draw) {
            return draw;
        }
    }

    private static class Early extends Ringer {
        Early(int skill) {
            super(skill);
        }

        @Override
        int offset(int draw) {
            return draw - 15;
        }
    }

    private static final class Learner extends Early {
        Learner(int skill) {
            super(skill);
        }

        @Override
        int offset(int draw) {
            return super.offset(draw) + 10 * slips;
        }

        @Override
        boolean isLost() {
            return slips >= 3;
        }
    }

    private static class Conductor extends Steady {
        Conductor(int skill) {
            super(skill);
        }

        @Override
        int offset(int draw) {
            return super.offset(draw) / 2;
        }

        final int steadyOffset(int draw) {
            return super.offset(draw);
        }
    }

    private static final class Tenor extends Conductor {
        Tenor(int skill) {
            super(skill);
        }

        @Override
        int offset(int draw) {
            return (2 * super.offset(draw) + steadyOffset(draw)) / 3;
        }
    }

    private static final class Ringing {
        final List<Map<Integer, Integer>> rows = new ArrayList<>();
        int clashes = 0;
        int words = 0;
        int lost = NONE;
    }

    int ringer(int bell, int kind, int skill) {
        if (bell < 1 || bell > n || kind < 0 || kind > 4 || skill < 0 || skill > 20) return BAD;
        Ringer[] kinds = {new Steady(skill), new Early(skill), new Learner(skill), new Conductor(skill), new Tenor(skill)};
        ringers[bell] = kinds[kind];
        return 0;
    }

    private static int draw(int seed, int r, int bell, int skill) {
        int h = seed ^ (int) ((64L * r + bell) * 0x9E3779B1L);
        h = (int) ((h ^ (h >>> 15)) * 0x85EBCA77L);
        return (h >>> 8) % (41 - 2 * skill) - 20 + skill;
    }

    int band(int seed, int from, int count) {
        if (count < 1 || count > 400 || from < 0 || (long) from + count > rows.size()) return BAD;
        ringing = new Ringing();
        for (int r = from; r < from + count; r++) {
            Map<Integer, Integer> blown = new LinkedHashMap<>();
            ringing.rows.add(blown);
            for (int p = 1; p <= n; p++) {
                int bell = rows.get(r)[p - 1];
                Ringer ringer = ringers[bell];
                int time = 20 * (n * r + p + r / 2) + ringer.offset(draw(seed, r, bell, ringer.skill));
                boolean clash = blown.values().stream().anyMatch(ahead -> ahead >= time);
                blown.put(bell, time);
                if (!clash) continue;
                ringing.clashes++;
                ringer.slips++;
                if (!ringer.isLost()) continue;
                ringing.lost = bell;
                boolean led = Arrays.stream(ringers).anyMatch(one -> one instanceof Conductor);
                if (!led || ringing.words == 5) return -10 - (r - from);
                ringing.words++;
                ringer.slips = 0;
                break;
            }
        }
        return count;
    }

    int blow(int k, int bell) {
        if (k < 0 || k >= ringing.rows.size()) return -1000000;
        return ringing.rows.get(k).getOrDefault(bell, -1000000);
    }

    int ringing(int what) {
        switch (what) {
            case 0: return ringing.clashes;
            case 1: return ringing.words;
            case 2: return ringing.rows.size();
            case 3: return ringing.lost;
            default: return BAD;
        }
    }

    int slips(int bell) {
        return bell < 1 || bell > n ? BAD : ringers[bell].slips;
    }

    // ---- the recording

    private static final class Blow {
        final int number;
        final int bell;
        final double time;

        Blow(int number, int bell, double time) {
            this.number = number;
            this.bell = bell;
            this.time = time;
        }
    }

    int note(int bell, long bits) {
        if (bell < 1 || bell > n) return BAD;
        if (blows.size() == 300) return FULL;
        blows.add(new Blow(blows.size(), bell, Double.longBitsToDouble(bits)));
        return blows.size() - 1;
    }

    int wipe() {
        int had = blows.size();
        blows.clear();
        return had;
    }

    int listen() {
        int all = ringing.rows.stream().mapToInt(Map::size).sum();
        if (blows.size() + all > 300) return FULL;
        for (Map<Integer, Integer> row : ringing.rows) {
            row.forEach((bell, time) -> note(bell, Double.doubleToLongBits(time / 1000.0)));
        }
        return all;
    }

    private List<Blow> ordered() {
        List<Blow> known = new ArrayList<>(blows);
        known.removeIf(blow -> Double.isNaN(blow.time));
        known.sort((a, b) -> a.time < b.time ? -1 : a.time > b.time ? 1 : a.number - b.number);
        return known;
    }

    int inOrder(int i, int what) {
        List<Blow> known = ordered();
        if (i < 0 || i >= known.size() || what < 0 || what > 1) return BAD;
        return what == 0 ? known.get(i).number : known.get(i).bell;
    }

    int heard(int k) {
        List<Blow> known = ordered();
        if (k < 0 || (k + 1L) * n > known.size()) return BAD;
        String digits = "";
        for (Blow blow : known.subList(k * n, k * n + n)) {
            if (digits.indexOf('0' + blow.bell) >= 0) return 0;
            digits += blow.bell;
        }
        return Integer.parseInt(digits);
    }

    /** GAP, LEAD, the greatest size, the root. */
    private double[] laid() {
        List<Blow> known = ordered();
        int m = known.size();
        double s = 0.0, p = 0.0;
        long a = (long) m * (m - 1) / 2, b = 0;
        for (int i = 0; i < m; i++) {
            s = s + known.get(i).time;
            p = p + (double) i * known.get(i).time;
            b += (long) i * i;
        }
        double gap = ((double) m * p - (double) a * s) / ((double) m * (double) b - (double) a * (double) a);
        double lead = (s - gap * (double) a) / (double) m;
        double greatest = 0.0, squares = 0.0;
        for (int i = 0; i < m; i++) {
            double error = known.get(i).time - (lead + gap * (double) i);
            greatest = Math.max(greatest, Math.abs(error));
            squares = squares + error * error;
        }
        return new double[] {gap, lead, greatest, Math.sqrt(squares / (double) m)};
    }

    long line(int what) {
        return what < 0 || what > 3 ? 0 : Double.doubleToLongBits(laid()[what]);
    }

    long along(int i, int what) {
        List<Blow> known = ordered();
        if (i < 0 || i >= known.size() || what < 0 || what > 2) return 0;
        double time = known.get(i).time, gap = laid()[0], lead = laid()[1];
        double answer = what == 0 ? time : what == 1 ? time - (lead + gap * (double) i) : Math.rint((time - lead) / gap);
        return Double.doubleToLongBits(answer);
    }

    // ---- the shelf: the machine's own arrays and its own refusals

    private static class Line {
        final int row;

        Line(int row) {
            this.row = row;
        }
    }

    private static final class CalledLine extends Line {
        CalledLine(int row) {
            super(row);
        }
    }

    private static boolean isBoard(int b) {
        return b >= 0 && b <= 7;
    }

    int board(int b, int sort, int size) {
        if (!isBoard(b) || sort < 0 || sort > 4 || size > 64) return BAD;
        try {
            switch (sort) {
                case 0: boards[b] = new byte[size]; break;
                case 1: boards[b] = new int[size]; break;
                case 2: boards[b] = new double[size]; break;
                case 3: boards[b] = new Line[size]; break;
                default: boards[b] = new CalledLine[size]; break;
            }
        } catch (NegativeArraySizeException e) {
            return SIZE;
        }
        return 0;
    }

    int clear(int b) {
        if (!isBoard(b)) return BAD;
        boards[b] = null;
        return 0;
    }

    int items(int b) {
        if (!isBoard(b)) return BAD;
        try {
            return java.lang.reflect.Array.getLength(boards[b]);
        } catch (NullPointerException e) {
            return NULL;
        }
    }

    int fill(int b, int from, int count) {
        if (!isBoard(b) || count < 0 || count > 64) return BAD;
        if (count > 0 && (from < 0 || (long) from + count > rows.size())) return BAD;
        Object board = boards[b];
        if (board == null) return NULL;
        try {
            for (int i = 0; i < count; i++) {
                int k = from + i;
                int[] row = rows.get(k);
                if (board instanceof byte[]) ((byte[]) board)[i] = (byte) row[0];
                else if (board instanceof int[]) ((int[]) board)[i] = rank(row);
                else if (board instanceof double[]) ((double[]) board)[i] = (double) rank(row) / k;
                else ((Line[]) board)[i] = madeCalled.get(k) ? new CalledLine(number(row)) : new Line(number(row));
            }
        } catch (ArrayIndexOutOfBoundsException e) {
            return INDEX;
        } catch (ArrayStoreException e) {
            return STORE;
        }
        return 0;
    }

    int copy(int a, int i, int b, int j, int count) {
        if (!isBoard(a) || !isBoard(b)) return BAD;
        try {
            System.arraycopy(boards[a], i, boards[b], j, count);
        } catch (NullPointerException e) {
            return NULL;
        } catch (ArrayStoreException e) {
            return STORE;
        } catch (ArrayIndexOutOfBoundsException e) {
            return INDEX;
        }
        return 0;
    }

    long item(int b, int sort, int i) {
        if (!isBoard(b) || sort < 0 || sort > 4) return 0;
        Object board = boards[b];
        try {
            switch (sort) {
                case 0: return ((byte[]) board)[i];
                case 1: return ((int[]) board)[i];
                case 2: return Double.doubleToLongBits(((double[]) board)[i]);
                case 3: return ((Line[]) board)[i].row;
                default: return ((CalledLine[]) board)[i].row;
            }
        } catch (ClassCastException e) {
            return CAST;
        } catch (NullPointerException e) {
            return NULL;
        } catch (ArrayIndexOutOfBoundsException e) {
            return INDEX;
        }
    }
}
