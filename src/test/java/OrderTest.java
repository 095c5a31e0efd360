import java.util.ArrayList;
import java.util.List;

/**
 * Each call with every mixture of what it is refused for and of the faults that it comes to: it answers the one that
 * its promise tells first, fault() tells it, and all else that can be asked answers as on an object not so called.
 */
public final class OrderTest {
    private static final int MIN = Integer.MIN_VALUE, MAX = Integer.MAX_VALUE;
    private static final long LOST = Long.MIN_VALUE;
    private static final int UNKNOWN = -1, OUTSIDE = -2, STATE = -3, FULL = -4;
    private static final int NULL = -11, CAST = -12, INDEX = -13, SIZE = -14;
    /** What an object is: its number is the last of a call's. */
    private static final int AT_WAR = 0, NO_WAR = 1, EIGHT_READINGS = 2;
    private static final int FAULT_AHEAD = 1;
    /** Office 0 has ink for 1, but not for 5; office 1 has none. */
    private static final String TEXT = "w1000120013230333;p005;c103;g012;p120;c027;g119";
    private static final int[][] ROWS = {null, null, {1, 0, 0, 3, 0, 4, 0, 0, 9, 0, 0, 0}, {}};

    private interface Call {
        long on(StampRaids x, int[] with);
    }

    /** Numbers that, put to a place of a call's, make it wrong. */
    private record Wrong(int answer, int place, int[] numbers) {
    }

    private final String name;
    private final boolean namesFaults;
    private final boolean answersLong;
    private final Call call;
    private final int[] right;
    private final List<Wrong> wrongs = new ArrayList<>();

    private OrderTest(String name, boolean namesFaults, boolean answersLong, Call call, int... right) {
        this.name = name;
        this.namesFaults = namesFaults;
        this.answersLong = answersLong;
        this.call = call;
        this.right = right;
    }

    public static void main(String[] args) {
        warCalls();
        strikeCalls();
        night();
        markCalls();
        seenCalls();
        fits();
        sheetCalls();
        copy();
        partCalls();
        Due.end();
    }

    private static OrderTest of(String name, Call call, int... right) {
        return new OrderTest(name, false, false, call, right);
    }

    private static OrderTest withFaults(String name, Call call, int... right) {
        return new OrderTest(name, true, false, call, right);
    }

    /** What is told behind all that has been told so far. */
    private OrderTest then(int answer, int place, int... numbers) {
        wrongs.add(new Wrong(answer, place, numbers));
        return this;
    }

    private OrderTest thenNoPerson(int place) {
        return then(UNKNOWN, place, -1, 6, MIN, MAX).then(UNKNOWN, right.length - 1, NO_WAR);
    }

    private OrderTest thenNoSheet(int place) {
        return then(UNKNOWN, place, -1, 4, MIN, MAX);
    }

    private OrderTest thenNoWar() {
        return then(STATE, right.length - 1, NO_WAR);
    }

    /** Just below the least and just above the greatest, and the ends of int. */
    private OrderTest thenOutside(int place, int least, int greatest) {
        return then(OUTSIDE, place, least - 1, greatest + 1, MIN, MAX);
    }

    // ---- how an object is made, and all that can be asked of it

    private static StampRaids made(int state) {
        StampRaids x = new StampRaids();
        Due.write(x, 0, 0, TEXT);
        for (int k = 2; k < 4; k++) {
            Due.row(x, k, k - 1, ROWS[k]);
        }
        if (state != NO_WAR) {
            x.war(0, 0, 0, TEXT.length());
            x.strike(1, 0);
            x.decree(3, 2, 2);
            x.starch(2, 8);
            x.reading(1, 4);
            x.reading(0, 5);
            x.tell(2);
            x.salute(0);
        }
        for (int k = 2; k < 8 && state == EIGHT_READINGS; k++) {
            x.reading(3, 0);
        }
        x.put(1, 0, 0);
        return x;
    }

    private static List<Long> allOf(StampRaids x) {
        List<Long> all = new ArrayList<>();
        for (int what = 0; what < 4; what++) {
            all.add((long) x.many(what));
        }
        all.add((long) x.trace());
        for (int p = 0; p < 6; p++) {
            for (int what = 1; what < 4; what++) {
                all.add((long) x.ofPerson(p, what));
            }
            all.add((long) x.ofPerson(p, 0) + 10L * x.necks(p) + 100000L * x.kinds(p));
        }
        for (int j = 0; j < 12; j++) {
            all.add((long) x.rule(j / 3, j % 3));
        }
        all.add((long) x.ofOffice(0, 0));
        all.add((long) x.ofOffice(1, 0));
        for (int k = 0; k < 4; k++) {
            rowOf(x, k, all);
        }
        return all;
    }

    private static void rowOf(StampRaids x, int k, List<Long> all) {
        for (int lane = 0; lane < 3; lane++) {
            boolean going = true;
            for (int i = 0; i <= 60 && going; i++) {
                all.add(x.cell(k, i, lane));
                all.add((long) x.fault());
                going = x.fault() == 0;
            }
        }
    }

    // ---- every mixture

    private void isKept() {
        long answer = call.on(made(right[right.length - 1]), right);
        Due.is(name + " with nothing wrong", answer >= 0 ? 1 : 0, 1);
        for (int mixture = 1; mixture < 1 << wrongs.size(); mixture++) {
            everyNumber(mixture, wrongs.size() - 1, right.clone());
        }
    }

    /** What is told first is put last, so that no other one takes its place. */
    private void everyNumber(int mixture, int k, int[] with) {
        if (k < 0) {
            refuses(with, first(mixture));
            return;
        }
        if ((mixture >> k & 1) == 0) {
            everyNumber(mixture, k - 1, with);
            return;
        }
        Wrong wrong = wrongs.get(k);
        for (int number : wrong.numbers) {
            int[] more = with.clone();
            more[wrong.place] = number;
            everyNumber(mixture, k - 1, more);
        }
    }

    /** Nothing is no CAST. */
    private int first(int mixture) {
        int answer = 0;
        for (int k = wrongs.size() - 1; k >= 0; k--) {
            if ((mixture >> k & 1) == 1 && !(wrongs.get(k).answer == CAST && answer == NULL)) {
                answer = wrongs.get(k).answer;
            }
        }
        return answer;
    }

    private static final List<List<Long>> WHOLE = List.of(allOf(made(AT_WAR)), allOf(made(NO_WAR)),
        allOf(made(EIGHT_READINGS)));

    private void refuses(int[] with, int due) {
        int state = with[with.length - 1];
        StampRaids x = made(state);
        StringBuilder told = new StringBuilder(name);
        for (int number : with) {
            told.append(' ').append(number);
        }
        Due.is(told.toString(), call.on(x, with), answersLong ? LOST : due);
        int fault = due <= NULL && due >= SIZE ? -10 - due : 0;
        Due.is("fault() behind " + told, x.fault(), namesFaults ? fault : FAULT_AHEAD);
        Due.is("nothing is changed by " + told, allOf(x).equals(WHOLE.get(state)) ? 1 : 0, 1);
    }

    // ---- the calls, in the order of the document

    private static void warCalls() {
        withFaults("war", (x, with) -> x.war(with[0], with[1], with[2], with[3]), 0, 0, 0, 27, AT_WAR)
            .thenNoSheet(0).thenOutside(1, 0, 2).then(CAST, 1, 1, 2).then(NULL, 0, 1).then(SIZE, 3, -1, MIN)
            .then(INDEX, 2, -1, 48, MIN, MAX).then(INDEX, 3, 48, MAX).then(-100, 2, 1).isKept();
        of("ofPerson", (x, with) -> x.ofPerson(with[0], with[1]), 0, 0, AT_WAR)
            .thenNoPerson(0).thenOutside(1, 0, 5).isKept();
        of("rule", (x, with) -> x.rule(with[0], with[1]), 0, 0, AT_WAR)
            .thenNoWar().thenOutside(0, 0, 3).thenOutside(1, 0, 2).isKept();
        of("decree", (x, with) -> x.decree(with[0], with[1], with[2]), 0, 0, 3, AT_WAR)
            .thenNoWar().thenOutside(0, 0, 3).thenOutside(1, 0, 2).thenOutside(2, 0, 3).isKept();
        of("starch", (x, with) -> x.starch(with[0], with[1]), 0, 9, AT_WAR)
            .thenNoPerson(0).thenOutside(1, 0, 9).isKept();
        of("ofOffice", (x, with) -> x.ofOffice(with[0], with[1]), 0, 0, AT_WAR)
            .thenNoWar().thenOutside(0, 0, 1).thenOutside(1, 0, 2).isKept();
    }

    private static void strikeCalls() {
        of("strike", (x, with) -> x.strike(with[0], with[1]), 1, 0, AT_WAR)
            .thenNoPerson(0).thenOutside(1, 0, 2).then(STATE, 0, 0, 5).isKept();
        of("wash", (x, with) -> x.wash(with[0]), 0, AT_WAR)
            .thenNoPerson(0).then(STATE, 0, 1, 3, 5).isKept();
        of("fetches", (x, with) -> x.fetches(with[0], with[1]), 1, 1, AT_WAR)
            .thenNoWar().thenOutside(0, 0, 1).thenOutside(1, 1, 99).isKept();
    }

    private static void night() {
        withFaults("night", (x, with) -> x.night(with[0], with[1], with[2], with[3], with[4]), 2, 1, 0, 2, 0, AT_WAR)
            .thenNoSheet(0).thenOutside(1, 0, 2).thenOutside(3, 0, 20).then(OUTSIDE, 4, -1, 5, 9, 16, MIN, MAX)
            .thenNoWar().then(CAST, 1, 0, 2).then(NULL, 0, 1).then(INDEX, 2, -1, 9, 13, MIN, MAX)
            .then(OUTSIDE, 2, 4).then(UNKNOWN, 2, 8).isKept();
    }

    private static void markCalls() {
        of("undoing", (x, with) -> x.undoing(with[0], with[1], with[2]), 0, 1, 0, AT_WAR)
            .thenNoWar().thenOutside(0, 0, 3).thenOutside(1, 0, 3).thenOutside(2, -1, 2).isKept();
        of("ways", (x, with) -> x.ways(with[0], with[1], with[2]), 0, 1, 1, AT_WAR)
            .thenNoWar().thenOutside(0, 0, 3).thenOutside(1, 0, 3).thenOutside(2, 0, 9).isKept();
        of("worn", (x, with) -> x.worn(with[0], with[1], with[2]), 0, 0, 0, AT_WAR)
            .thenNoWar().thenOutside(0, 0, 3).thenOutside(1, 0, 2).thenOutside(2, 0, 1).isKept();
        of("raid", (x, with) -> x.raid(with[0], with[1], with[2]), 0, 0, 0, AT_WAR)
            .thenNoWar().thenOutside(0, 0, 1).thenOutside(1, 0, 6).thenOutside(2, 0, 1).isKept();
        of("peace", (x, with) -> x.peace(with[0]), 0, AT_WAR)
            .thenNoWar().thenOutside(0, 0, 1).isKept();
    }

    private static void seenCalls() {
        of("reading", (x, with) -> x.reading(with[0], with[1]), 0, 20, AT_WAR)
            .thenNoPerson(0).thenOutside(1, 0, 20).then(FULL, 2, EIGHT_READINGS).isKept();
        of("back of two", (x, with) -> x.back(with[0]), 2, AT_WAR).thenOutside(0, 0, 2).isKept();
        of("back of eight", (x, with) -> x.back(with[0]), 8, EIGHT_READINGS).thenOutside(0, 0, 8).isKept();
        of("back of none", (x, with) -> x.back(with[0]), 0, NO_WAR).thenOutside(0, 0, 0).isKept();
        of("necks", (x, with) -> x.necks(with[0]), 0, AT_WAR).thenNoPerson(0).isKept();
        of("kinds", (x, with) -> x.kinds(with[0]), 0, AT_WAR).thenNoPerson(0).isKept();
        new OrderTest("odds", false, true, (x, with) -> x.odds(with[0], with[1], with[2]), 0, 1, 0, AT_WAR)
            .thenNoPerson(0).thenOutside(1, 0, 9).thenOutside(2, 0, 1).isKept();
    }

    private static void fits() {
        withFaults("fits", (x, with) -> x.fits(with[0], with[1], with[2], with[3]), 2, 1, 0, 2, AT_WAR)
            .thenNoSheet(0).thenOutside(1, 0, 2).thenOutside(3, 0, 20).thenNoWar().then(CAST, 1, 0, 2)
            .then(NULL, 0, 1).then(INDEX, 2, -1, 11, 13, MIN, MAX).then(OUTSIDE, 2, 4, 5, 7, 8).isKept();
    }

    private static void sheetCalls() {
        withFaults("sheet", (x, with) -> x.sheet(with[0], with[1], with[2]), 2, 2, 5, AT_WAR)
            .thenNoSheet(0).thenOutside(1, 0, 2).then(OUTSIDE, 2, 61, MAX).then(SIZE, 2, -1, MIN).isKept();
        of("lose", (x, with) -> x.lose(with[0]), 0, AT_WAR).thenNoSheet(0).isKept();
        withFaults("put", (x, with) -> x.put(with[0], with[1], with[2]), 0, 0, 7, AT_WAR)
            .thenNoSheet(0).then(NULL, 0, 1).then(INDEX, 1, -1, 47, MIN, MAX).isKept();
        withFaults("put to a row of no cells", (x, with) -> x.put(with[0], with[1], with[2]), 0, 0, 7, AT_WAR)
            .thenNoSheet(0).then(NULL, 0, 1).then(INDEX, 0, 3).isKept();
        new OrderTest("cell", true, true, (x, with) -> x.cell(with[0], with[1], with[2]), 0, 0, 0, AT_WAR)
            .thenNoSheet(0).thenOutside(2, 0, 2).then(CAST, 2, 1, 2).then(NULL, 0, 1)
            .then(INDEX, 1, -1, 47, MIN, MAX).isKept();
    }

    private static void copy() {
        Call call = (x, with) -> x.copy(with[0], with[1], with[2], with[3], with[4]);
        withFaults("copy", call, 2, 0, 2, 1, 3, AT_WAR)
            .thenNoSheet(0).thenNoSheet(2).then(NULL, 0, 1).then(NULL, 2, 1).then(CAST, 2, 0, 3)
            .then(INDEX, 1, -1, 10, MIN, MAX).then(INDEX, 3, -1, 10, MIN, MAX).then(INDEX, 4, -1, 12, MIN, MAX)
            .isKept();
        withFaults("copy of no cells", call, 2, 12, 2, 12, 0, AT_WAR)
            .then(INDEX, 1, -1, 13, MIN, MAX).then(INDEX, 3, -1, 13, MIN, MAX).then(INDEX, 4, -1, 1, MIN, MAX)
            .isKept();
    }

    private static void partCalls() {
        of("tell", (x, with) -> x.tell(with[0]), 0, AT_WAR).thenNoPerson(0).isKept();
        of("salute", (x, with) -> x.salute(with[0]), 0, AT_WAR).thenNoPerson(0).isKept();
        withFaults("as, of a plain one", (x, with) -> x.as(with[0], with[1]), 0, 0, AT_WAR)
            .thenNoPerson(0).thenOutside(1, 0, 2).then(CAST, 1, 1, 2).isKept();
        withFaults("as, of a clerk", (x, with) -> x.as(with[0], with[1]), 1, 1, AT_WAR)
            .thenNoPerson(0).thenOutside(1, 0, 2).then(CAST, 1, 2).isKept();
        withFaults("as, of a general", (x, with) -> x.as(with[0], with[1]), 2, 2, AT_WAR)
            .thenNoPerson(0).thenOutside(1, 0, 2).isKept();
        of("many", (x, with) -> x.many(with[0]), 0, AT_WAR).thenOutside(0, 0, 3).isKept();
    }
}
