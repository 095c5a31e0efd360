import java.util.Random;

/** Long runs of calls on the class and on the model, which must answer alike. */
public final class ModelTest {
    private static final int RUNS = 1200;
    private static final int[] ODD = {-1, -2, 3, 4, 5, 6, 7, 9, 10, 11, 15, 16, 20, 21, 22, 47, 59, 60, 61, 99, 100,
        128, 255, 32768, 65536, Integer.MAX_VALUE, Integer.MIN_VALUE, Integer.MAX_VALUE - 1, 1 << 30};

    private final Random random;
    private final int run;
    private final StampRaids x = new StampRaids();
    private final Model y = new Model();
    private int calls;

    private ModelTest(int run) {
        this.run = run;
        random = new Random(run);
    }

    public static void main(String[] args) {
        for (int run = 0; run < RUNS; run++) {
            new ModelTest(run).go();
        }
        Due.end();
    }

    /** What a run calls is bound by the document: 512 calls. */
    private void go() {
        if (random.nextInt(4) > 0) {
            tellWar(random.nextInt(8) == 0);
        }
        while (calls < 480) {
            int pick = random.nextInt(60);
            if (pick == 0 && calls < 400) {
                tellWar(random.nextInt(3) > 0);
            } else if (pick < 4 && calls < 400) {
                tellNight();
            } else if (pick < 6 && calls < 400) {
                tellMarks();
            } else if (pick < 10) {
                trueReading();
            } else {
                anyCall(random.nextInt(32));
            }
            same("fault()", x.fault(), y.fault());
        }
    }

    private void same(String call, long got, long want) {
        calls++;
        Due.is("run " + run + ", call " + calls + ": " + call, got, want);
    }

    private static String told(String name, int... with) {
        StringBuilder text = new StringBuilder(name);
        for (int j = 0; j < with.length; j++) {
            text.append(j == 0 ? "(" : ", ").append(with[j]);
        }
        return text.append(')').toString();
    }

    /** A number below a bound, or once in a while another one. */
    private int some(int bound) {
        return random.nextInt(14) == 0 ? ODD[random.nextInt(ODD.length)] : random.nextInt(bound);
    }

    private void sheet(int k, int lane, int n) {
        same(told("sheet", k, lane, n), x.sheet(k, lane, n), y.sheet(k, lane, n));
    }

    private void put(int k, int i, int v) {
        same(told("put", k, i, v), x.put(k, i, v), y.put(k, i, v));
    }

    private void tellWar(boolean broken) {
        StringBuilder text = new StringBuilder("w");
        int most = random.nextInt(3) == 0 ? 2 : 10;
        for (int j = 0; j < 4; j++) {
            text.append(random.nextInt(j % 2 == 0 ? most : 10));
        }
        int span = 1 + random.nextInt(4);
        for (int j = 0; j < 12; j++) {
            text.append(random.nextInt(3) == 0 ? j / 3 : random.nextInt(span));
        }
        int people = 2 + random.nextInt(5);
        int tough = 1 + random.nextInt(10);
        for (int p = 0; p < people; p++) {
            text.append(';').append("pcg".charAt(random.nextInt(3))).append(random.nextInt(2))
                .append(random.nextInt(2) * random.nextInt(4)).append(random.nextInt(tough));
        }
        if (broken) {
            text.setCharAt(random.nextInt(text.length()), "w;pcg0123459:/"
                .charAt(random.nextInt(14)));
        }
        writeWar(text.toString(), broken);
    }

    private void writeWar(String text, boolean broken) {
        int k = random.nextInt(4);
        int lane = random.nextInt(3);
        int ahead = random.nextInt(4);
        sheet(k, lane, text.length() + ahead);
        for (int j = 0; j < text.length(); j++) {
            put(k, ahead + j, text.charAt(j));
        }
        int n = broken && random.nextInt(2) == 0 ? random.nextInt(text.length() + 2) : text.length();
        same(told("war", k, lane, ahead, n), x.war(k, lane, ahead, n), y.war(k, lane, ahead, n));
    }

    private void tellNight() {
        int k = random.nextInt(4);
        int lane = random.nextInt(3);
        int pairs = random.nextInt(12);
        int ahead = random.nextInt(3);
        sheet(k, lane, ahead + 2 * pairs);
        int people = Math.max(1, y.many(0));
        for (int j = 0; j < pairs; j++) {
            put(k, ahead + 2 * j, random.nextInt(60) == 0 ? some(7) : random.nextInt(people));
            put(k, ahead + 2 * j + 1, random.nextInt(60) == 0 ? some(5) : random.nextInt(4));
        }
        for (int what = 0; what < 16; what = what == 4 ? 10 : what + 1) {
            night(k, lane, ahead, pairs, what);
        }
        int fewer = random.nextInt(pairs + 2);
        for (int what = 0; what < 5; what++) {
            night(k, lane, ahead, fewer, what);
        }
    }

    private void night(int k, int lane, int i, int n, int what) {
        same(told("night", k, lane, i, n, what), x.night(k, lane, i, n, what), y.night(k, lane, i, n, what));
    }

    private void tellMarks() {
        int k = random.nextInt(4);
        int lane = random.nextInt(3);
        int n = random.nextInt(8);
        int stamp = random.nextInt(3);
        int mark = random.nextInt(4);
        sheet(k, lane, n);
        for (int j = 0; j < n; j++) {
            put(k, j, mark);
            mark = random.nextInt(12) == 0 ? some(4) : Math.max(0, y.rule(mark, stamp));
        }
        same(told("fits", k, lane, 0, n), x.fits(k, lane, 0, n), y.fits(k, lane, 0, n));
    }

    /** One that is so: else hardly any set would be more than empty. */
    private void trueReading() {
        int p = random.nextInt(6);
        int v = y.ofPerson(p, 4);
        same(told("reading", p, v), x.reading(p, v), y.reading(p, v));
        for (int who = 0; who < 6; who++) {
            same(told("necks", who), x.necks(who), y.necks(who));
            same(told("kinds", who), x.kinds(who), y.kinds(who));
        }
        int k = random.nextInt(3);
        same(told("back", k), x.back(k), y.back(k));
    }

    private void anyCall(int which) {
        if (which < 8) {
            callOfWar(which);
        } else if (which < 18) {
            callOfMarks(which);
        } else if (which < 24) {
            callOfSheets(which);
        } else {
            callOfParts(which);
        }
    }

    private void callOfWar(int which) {
        int a = some(7);
        int b = some(7);
        int mark = some(4);
        int stamp = some(3);
        switch (which) {
            case 0: same(told("ofPerson", a, b), x.ofPerson(a, b), y.ofPerson(a, b)); break;
            case 1: same(told("rule", mark, stamp), x.rule(mark, stamp), y.rule(mark, stamp)); break;
            case 2: same(told("decree", mark, stamp, b), x.decree(mark, stamp, b), y.decree(mark, stamp, b)); break;
            case 3: same(told("starch", a, b), x.starch(a, b), y.starch(a, b)); break;
            case 4: same(told("ofOffice", stamp, mark), x.ofOffice(stamp, mark), y.ofOffice(stamp, mark)); break;
            case 5: same(told("strike", a, stamp), x.strike(a, stamp), y.strike(a, stamp)); break;
            case 6: same(told("wash", a), x.wash(a), y.wash(a)); break;
            default:
                int n = some(30);
                same(told("fetches", stamp, n), x.fetches(stamp, n), y.fetches(stamp, n));
        }
    }

    private void callOfMarks(int which) {
        int from = some(4);
        int to = some(4);
        int k = some(4) - 1;
        int n = some(6);
        int p = some(6);
        switch (which) {
            case 8: same(told("undoing", from, to, k), x.undoing(from, to, k), y.undoing(from, to, k)); break;
            case 9: same(told("ways", from, to, n), x.ways(from, to, n), y.ways(from, to, n)); break;
            case 10: same(told("worn", from, k, to % 2), x.worn(from, k, to % 2), y.worn(from, k, to % 2)); break;
            case 11:
            case 12: same(told("raid", k, n, to), x.raid(k, n, to), y.raid(k, n, to)); break;
            case 13: same(told("peace", k), x.peace(k), y.peace(k)); break;
            case 14:
                if (random.nextInt(3) == 0) {
                    same(told("reading", p, n), x.reading(p, n), y.reading(p, n));
                }
                break;
            case 15: same(told("back", k), x.back(k), y.back(k)); break;
            default:
                int which2 = random.nextInt(8) == 0 ? some(3) : random.nextInt(2);
                same(told("odds", p, n, which2), x.odds(p, n, which2), y.odds(p, n, which2));
        }
    }

    private void callOfSheets(int which) {
        int k = some(4);
        int other = some(4);
        int lane = some(3);
        int i = random.nextInt(3) == 0 ? some(61) : random.nextInt(6);
        int j = random.nextInt(3) == 0 ? some(61) : random.nextInt(6);
        int n = random.nextInt(3) == 0 ? some(61) : random.nextInt(4);
        switch (which) {
            case 18: sheet(k, lane, n); break;
            case 19:
                if (random.nextInt(4) == 0) {
                    same(told("lose", k), x.lose(k), y.lose(k));
                }
                break;
            case 20: put(k, i, random.nextInt(2) == 0 ? random.nextInt() : random.nextInt(5)); break;
            case 21: same(told("cell", k, i, lane), x.cell(k, i, lane), y.cell(k, i, lane)); break;
            case 22: same(told("copy", k, i, k, j, n), x.copy(k, i, k, j, n), y.copy(k, i, k, j, n)); break;
            default: same(told("copy", k, i, other, j, n), x.copy(k, i, other, j, n), y.copy(k, i, other, j, n));
        }
    }

    private void callOfParts(int which) {
        int k = some(4);
        int lane = some(3);
        int i = some(5);
        int n = some(4);
        int p = some(6);
        int what = some(5);
        switch (which) {
            case 24: same(told("tell", p), x.tell(p), y.tell(p)); break;
            case 25: same(told("salute", p), x.salute(p), y.salute(p)); break;
            case 26: same(told("as", p, lane), x.as(p, lane), y.as(p, lane)); break;
            case 27: same("trace()", x.trace(), y.trace()); break;
            case 28: same(told("many", what), x.many(what), y.many(what)); break;
            case 29: same(told("war", k, lane, i, n), x.war(k, lane, i, n), y.war(k, lane, i, n)); break;
            case 30: night(k, lane, i, n, what); break;
            default: same(told("fits", k, lane, i, n), x.fits(k, lane, i, n), y.fits(k, lane, i, n));
        }
    }
}
