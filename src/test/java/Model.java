import java.math.BigInteger;
import java.util.ArrayList;
import java.util.Collections;
import java.util.List;
import java.util.TreeMap;
import java.util.regex.Matcher;
import java.util.regex.Pattern;

/** What the document asks, worked out in the most roundabout way: by listing all that could be. */
final class Model {
    private static final Pattern TEXT =
        Pattern.compile("w[0-9]{2}[0-9]{2}[0-3]{12}(?:;[pcg][01][0-3][0-9]){2,6}");
    private static final long LOST = Long.MIN_VALUE;

    private static final class Row {
        int lane;
        List<Integer> cells = new ArrayList<>();
    }

    private final TreeMap<Integer, Row> rows = new TreeMap<>();
    private int[] inks;
    private int[][] rules;
    private List<int[]> people = new ArrayList<>();
    private List<int[]> readings = new ArrayList<>();
    private int strikes;
    private int trace;
    private int fault;

    // ---- sheets

    private static boolean in(int v, int least, int most) {
        return v >= least && v <= most;
    }

    private int stop(int number) {
        fault = number;
        return -10 - number;
    }

    /** The first fault of n cells, taken as a row of a lane, in the order CAST, NULL, SIZE, INDEX. */
    private int faultOf(int sheet, int lane, long i, long n) {
        Row row = rows.get(sheet);
        if (row != null && row.lane != lane) {
            return 2;
        }
        if (row == null) {
            return 1;
        }
        if (n < 0) {
            return 4;
        }
        return i < 0 || i > row.cells.size() || i + n > row.cells.size() ? 3 : 0;
    }

    private static int cut(int v, int lane) {
        return BigInteger.valueOf(v).and(BigInteger.valueOf(lane == 0 ? 0xffL : lane == 1 ? 0xffffL : 0xffffffffL))
            .add(BigInteger.ONE.shiftLeft((8 << lane) - 1)).mod(BigInteger.ONE.shiftLeft(8 << lane))
            .subtract(BigInteger.ONE.shiftLeft((8 << lane) - 1)).intValue();
    }

    int sheet(int k, int lane, int n) {
        fault = 0;
        if (!in(k, 0, 3)) {
            return -1;
        }
        if (!in(lane, 0, 2) || n > 60) {
            return -2;
        }
        if (n < 0) {
            return stop(4);
        }
        Row row = new Row();
        row.lane = lane;
        row.cells.addAll(Collections.nCopies(n, 0));
        rows.put(k, row);
        return 1;
    }

    int lose(int k) {
        return !in(k, 0, 3) ? -1 : rows.remove(k) == null ? 0 : 1;
    }

    int put(int k, int i, int v) {
        fault = 0;
        if (!in(k, 0, 3)) {
            return -1;
        }
        Row row = rows.get(k);
        if (row == null) {
            return stop(1);
        }
        if (!in(i, 0, row.cells.size() - 1)) {
            return stop(3);
        }
        row.cells.set(i, cut(v, row.lane));
        return 1;
    }

    long cell(int k, int i, int lane) {
        fault = 0;
        if (!in(k, 0, 3) || !in(lane, 0, 2)) {
            return LOST;
        }
        fault = faultOf(k, lane, i, 1);
        return fault != 0 ? LOST : rows.get(k).cells.get(i);
    }

    int copy(int k, int i, int other, int j, int n) {
        fault = 0;
        if (!in(k, 0, 3) || !in(other, 0, 3)) {
            return -1;
        }
        Row from = rows.get(k);
        Row to = rows.get(other);
        if (from == null || to == null) {
            return stop(1);
        }
        if (from.lane != to.lane) {
            return stop(2);
        }
        if (n < 0 || faultOf(k, from.lane, i, n) != 0 || faultOf(other, to.lane, j, n) != 0) {
            return stop(3);
        }
        List<Integer> taken = new ArrayList<>(from.cells.subList(i, i + n));
        for (int m = 0; m < n; m++) {
            to.cells.set(j + m, taken.get(m));
        }
        return n;
    }

    // ---- the war

    int war(int sheet, int lane, int i, int n) {
        fault = 0;
        if (!in(sheet, 0, 3)) {
            return -1;
        }
        if (!in(lane, 0, 2)) {
            return -2;
        }
        int found = faultOf(sheet, lane, i, n);
        if (found != 0) {
            return stop(found);
        }
        StringBuilder codes = new StringBuilder();
        for (int code : rows.get(sheet).cells.subList(i, i + n)) {
            codes.append(in(code, 1, 126) ? (char) code : (char) 127);
        }
        String text = codes.toString();
        if (!TEXT.matcher(text).matches()) {
            return -100 - goodLength(text);
        }
        begin(text);
        return people.size();
    }

    /** The longest beginning with which a text goes on. */
    private static int goodLength(String text) {
        for (int length = text.length(); length > 0; length--) {
            Matcher matcher = TEXT.matcher(text.substring(0, length));
            if (matcher.matches() || matcher.hitEnd()) {
                return length;
            }
        }
        return 0;
    }

    private void begin(String text) {
        String[] parts = text.split(";");
        inks = new int[] {Integer.parseInt(parts[0].substring(1, 3)), Integer.parseInt(parts[0].substring(3, 5))};
        rules = new int[4][3];
        for (int j = 0; j < 12; j++) {
            rules[j / 3][j % 3] = parts[0].charAt(5 + j) - '0';
        }
        people = new ArrayList<>();
        for (int p = 1; p < parts.length; p++) {
            String part = parts[p];
            people.add(new int[] {"pcg".indexOf(part.charAt(0)), part.charAt(1) - '0', part.charAt(2) - '0',
                part.charAt(3) - '0'});
        }
        readings = new ArrayList<>();
        strikes = 0;
    }

    private boolean nobody(int p) {
        return !in(p, 0, people.size() - 1);
    }

    private static int takes(int kind, int neck) {
        return new int[] {neck, neck + 1, neck + 1 + neck + 1}[kind];
    }

    private int takes(int p) {
        return takes(people.get(p)[0], people.get(p)[3]);
    }

    private static boolean atWork(int mark) {
        return mark == 0 || mark == 2;
    }

    int ofPerson(int p, int what) {
        if (nobody(p)) {
            return -1;
        }
        if (!in(what, 0, 5)) {
            return -2;
        }
        return what < 4 ? people.get(p)[what] : what == 4 ? takes(p) : atWork(people.get(p)[2]) ? 1 : 0;
    }

    int rule(int mark, int stamp) {
        return rules == null ? -3 : !in(mark, 0, 3) || !in(stamp, 0, 2) ? -2 : rules[mark][stamp];
    }

    int decree(int mark, int stamp, int v) {
        int was = rule(mark, stamp);
        if (was < 0) {
            return was;
        }
        if (!in(v, 0, 3)) {
            return -2;
        }
        rules[mark][stamp] = v;
        return was;
    }

    int starch(int p, int v) {
        if (nobody(p)) {
            return -1;
        }
        if (!in(v, 0, 9)) {
            return -2;
        }
        int was = people.get(p)[3];
        people.get(p)[3] = v;
        return was;
    }

    private List<Integer> workers(int office) {
        List<Integer> all = new ArrayList<>();
        for (int p = 0; p < people.size(); p++) {
            if (people.get(p)[1] == office && atWork(people.get(p)[2])) {
                all.add(p);
            }
        }
        return all;
    }

    private static int bits(List<Integer> all) {
        int set = 0;
        for (int one : all) {
            set += 1 << one;
        }
        return set;
    }

    int ofOffice(int office, int what) {
        if (rules == null) {
            return -3;
        }
        if (!in(office, 0, 1) || !in(what, 0, 2)) {
            return -2;
        }
        if (what == 0) {
            return inks[office];
        }
        List<Integer> all = new ArrayList<>();
        for (int p = 0; p < people.size(); p++) {
            if (people.get(p)[1] == office) {
                all.add(p);
            }
        }
        return bits(what == 1 ? workers(office) : all);
    }

    // ---- strikes

    int strike(int p, int stamp) {
        if (nobody(p)) {
            return -1;
        }
        if (!in(stamp, 0, 2)) {
            return -2;
        }
        if (!act(people, inks, p, stamp)) {
            return -3;
        }
        strikes++;
        return people.get(p)[2];
    }

    int wash(int p) {
        if (nobody(p)) {
            return -1;
        }
        int was = people.get(p)[2];
        return act(people, inks, p, 3) ? was : -3;
    }

    private boolean act(List<int[]> whom, int[] ink, int p, int what) {
        int[] who = whom.get(p);
        int office = what == 3 ? who[1] : 1 - who[1];
        int cost = what == 3 ? 1 : takes(who[0], who[3]);
        if (ink[office] < cost) {
            return false;
        }
        ink[office] -= cost;
        who[2] = what == 3 ? 0 : rules[who[2]][what];
        return true;
    }

    int fetches(int office, int n) {
        if (rules == null) {
            return -3;
        }
        if (!in(office, 0, 1) || !in(n, 1, 99)) {
            return -2;
        }
        for (int j = 0; j < n && inks[office] < 99; j++) {
            inks[office]++;
        }
        return inks[office];
    }

    int night(int sheet, int lane, int i, int n, int what) {
        fault = 0;
        if (!in(sheet, 0, 3)) {
            return -1;
        }
        if (!in(lane, 0, 2) || !in(n, 0, 20) || !in(what, 0, 4) && !in(what, 10, 15)) {
            return -2;
        }
        if (rules == null) {
            return -3;
        }
        int found = faultOf(sheet, lane, i, 2L * n);
        if (found != 0) {
            return stop(found);
        }
        List<Integer> told = rows.get(sheet).cells.subList(i, i + 2 * n);
        for (int j = 0; j < 2 * n; j += 2) {
            if (!in(told.get(j + 1), 0, 3)) {
                return -2;
            }
            if (nobody(told.get(j))) {
                return -1;
            }
        }
        return pass(told, what);
    }

    private int pass(List<Integer> told, int what) {
        List<int[]> whom = new ArrayList<>();
        people.forEach(who -> whom.add(who.clone()));
        int[] ink = inks.clone();
        int changed = 0;
        int more = 0;
        for (int j = 0; j < told.size(); j += 2) {
            int was = whom.get(told.get(j))[2];
            if (!act(whom, ink, told.get(j), told.get(j + 1))) {
                return what == 1 ? j / 2 : -100 - j / 2;
            }
            changed += told.get(j + 1) < 3 && whom.get(told.get(j))[2] != was ? 1 : 0;
            more += whom.stream().filter(who -> atWork(who[2])).mapToInt(who -> 1 - 2 * who[1]).sum() > 0 ? 1 : 0;
        }
        int set = 0;
        for (int p = 0; p < whom.size(); p++) {
            set += atWork(whom.get(p)[2]) ? 1 << p : 0;
        }
        if (what >= 10) {
            return what - 10 < whom.size() ? whom.get(what - 10)[2] : -9;
        }
        return new int[] {ink[0] + ink[1], -9, set, changed, more}[what];
    }

    // ---- marks, raids

    /** All rows of n stamps, the first as a row first. */
    private static List<int[]> allRows(int n) {
        List<int[]> all = new ArrayList<>();
        int many = BigInteger.valueOf(3).pow(n).intValue();
        for (int j = 0; j < many; j++) {
            int[] row = new int[n];
            for (int k = n - 1, left = j; k >= 0; k--, left /= 3) {
                row[k] = left % 3;
            }
            all.add(row);
        }
        return all;
    }

    private int after(int mark, int[] row) {
        int at = mark;
        for (int stamp : row) {
            at = rules[at][stamp];
        }
        return at;
    }

    int undoing(int from, int to, int k) {
        if (rules == null) {
            return -3;
        }
        if (!in(from, 0, 3) || !in(to, 0, 3) || !in(k, -1, 2)) {
            return -2;
        }
        for (int n = 0; n < 6; n++) {
            for (int[] row : allRows(n)) {
                if (after(from, row) == to) {
                    return k == -1 ? n : k < n ? row[k] : -9;
                }
            }
        }
        return -9;
    }

    int ways(int from, int to, int n) {
        if (rules == null) {
            return -3;
        }
        if (!in(from, 0, 3) || !in(to, 0, 3) || !in(n, 0, 9)) {
            return -2;
        }
        return (int) allRows(n).stream().filter(row -> after(from, row) == to).count();
    }

    int worn(int mark, int stamp, int what) {
        if (rules == null) {
            return -3;
        }
        if (!in(mark, 0, 3) || !in(stamp, 0, 2) || !in(what, 0, 1)) {
            return -2;
        }
        List<Integer> seen = new ArrayList<>();
        int at = mark;
        while (!seen.contains(at)) {
            seen.add(at);
            at = rules[at][stamp];
        }
        return what == 0 ? seen.indexOf(at) : seen.size() - seen.indexOf(at);
    }

    /** How few stamps put one of a mark from work; -1: none do. */
    private int fewestFromWork(int mark) {
        for (int n = 0; n < 6; n++) {
            for (int[] row : allRows(n)) {
                if (!atWork(after(mark, row))) {
                    return n;
                }
            }
        }
        return -1;
    }

    int raid(int office, int n, int what) {
        if (rules == null) {
            return -3;
        }
        if (!in(office, 0, 1) || !in(n, 0, 6) || !in(what, 0, 1)) {
            return -2;
        }
        List<Integer> others = workers(1 - office);
        int bestSet = -9;
        int bestInk = -9;
        for (int set = 0; set < 64; set++) {
            int ink = 0;
            int left = others.size();
            boolean can = true;
            for (int p = 0; p < 6; p++) {
                if ((set >> p & 1) == 1) {
                    can = can && others.contains(p) && fewestFromWork(people.get(p)[2]) > 0;
                    ink += can ? fewestFromWork(people.get(p)[2]) * takes(p) : 0;
                    left--;
                }
            }
            if (can && left <= n && (bestSet < 0 || ink < bestInk)) {
                bestSet = set;
                bestInk = ink;
            }
        }
        return what == 0 ? bestInk : bestSet;
    }

    int peace(int what) {
        if (rules == null) {
            return -3;
        }
        if (!in(what, 0, 1)) {
            return -2;
        }
        int[] best = {0, 0};
        pair(workers(0), workers(1), 0, 0, best);
        return best[what];
    }

    /** All ways to make twos: the first one left is in none, or in one with any of the others. */
    private void pair(List<Integer> ones, List<Integer> others, int twos, int sum, int[] best) {
        if (twos > best[0] || twos == best[0] && sum > best[1]) {
            best[0] = twos;
            best[1] = sum;
        }
        if (ones.isEmpty()) {
            return;
        }
        List<Integer> left = ones.subList(1, ones.size());
        pair(left, others, twos, sum, best);
        for (Integer other : others) {
            List<Integer> fewer = new ArrayList<>(others);
            fewer.remove(other);
            pair(left, fewer, twos + 1, sum + takes(ones.get(0)) + takes(other), best);
        }
    }

    // ---- what was seen

    int reading(int p, int v) {
        if (nobody(p)) {
            return -1;
        }
        if (!in(v, 0, 20)) {
            return -2;
        }
        if (readings.size() == 8) {
            return -4;
        }
        readings.add(new int[] {p, v});
        return readings.size() - 1;
    }

    int back(int k) {
        if (!in(k, 0, readings.size())) {
            return -2;
        }
        readings = new ArrayList<>(readings.subList(0, readings.size() - k));
        return readings.size();
    }

    /** The values of a person's field by which all readings are so. */
    private int seen(int p, int field, int values) {
        if (nobody(p)) {
            return -1;
        }
        int was = people.get(p)[field];
        int set = 0;
        for (int v = 0; v < values; v++) {
            people.get(p)[field] = v;
            set += readings.stream().allMatch(reading -> takes(reading[0]) == reading[1]) ? 1 << v : 0;
        }
        people.get(p)[field] = was;
        return set;
    }

    int necks(int p) {
        return seen(p, 3, 10);
    }

    int kinds(int p) {
        return seen(p, 0, 3);
    }

    int fits(int sheet, int lane, int i, int n) {
        fault = 0;
        if (!in(sheet, 0, 3)) {
            return -1;
        }
        if (!in(lane, 0, 2) || !in(n, 0, 20)) {
            return -2;
        }
        if (rules == null) {
            return -3;
        }
        int found = faultOf(sheet, lane, i, n);
        if (found != 0) {
            return stop(found);
        }
        List<Integer> told = rows.get(sheet).cells.subList(i, i + n);
        if (told.stream().anyMatch(mark -> !in(mark, 0, 3))) {
            return -2;
        }
        int set = 7;
        for (int j = 1; j < n; j++) {
            for (int stamp = 0; stamp < 3; stamp++) {
                set &= rules[told.get(j - 1)][stamp] == told.get(j) ? 7 : 7 - (1 << stamp);
            }
        }
        return set;
    }

    long odds(int p, int n, int which) {
        if (nobody(p) || !in(n, 0, 9) || !in(which, 0, 1)) {
            return LOST;
        }
        List<int[]> all = allRows(n);
        long upper = all.stream().filter(row -> atWork(after(people.get(p)[2], row))).count();
        long common = BigInteger.valueOf(upper).gcd(BigInteger.valueOf(all.size())).longValue();
        return (which == 0 ? upper : all.size()) / common;
    }

    // ---- parts

    private void body(int number) {
        trace = trace * 31 + number;
    }

    private int telling(int kind, int neck) {
        body(kind + 1);
        switch (kind) {
            case 0: return neck;
            case 1: return 100 + telling(0, neck);
            default: return telling(1, neck) + telling(0, neck);
        }
    }

    int tell(int p) {
        return nobody(p) ? -1 : telling(people.get(p)[0], people.get(p)[3]);
    }

    int salute(int p) {
        if (nobody(p)) {
            return -1;
        }
        boolean general = people.get(p)[0] == 2;
        body(general ? 5 : 4);
        return general ? 80 : p;
    }

    int as(int p, int kind) {
        fault = 0;
        if (nobody(p)) {
            return -1;
        }
        if (!in(kind, 0, 2)) {
            return -2;
        }
        return people.get(p)[0] >= kind ? 1 : stop(2);
    }

    int trace() {
        return trace;
    }

    int fault() {
        return fault;
    }

    int many(int what) {
        if (!in(what, 0, 3)) {
            return -2;
        }
        return new int[] {people.size(), workers(0).size() + workers(1).size(), strikes, readings.size()}[what];
    }
}
