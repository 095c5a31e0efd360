/** Promises 23 to 33: sheets, tellings, kinds, trace, fault, many. */
public final class SheetsTest {
    private static final String TEXT = "w3025120013230333;p005;c103;g012;p120;c027;g119";
    private static final long LOST = Long.MIN_VALUE;

    public static void main(String[] args) {
        sheet();
        sheetRefusals();
        lose();
        putAndCellByLane();
        putRefusals();
        cellRefusals();
        copy();
        copyOntoItself();
        copyRefusals();
        tell();
        salute();
        as();
        traceWrapsAndStays();
        faultOfTheLatestThatNamesOne();
        refusalsMakeFaultNone();
        many();
        Due.end();
    }

    private static void sheet() {
        StampRaids x = new StampRaids();
        for (int k = 0; k < 4; k++) {
            Due.is("sheet(" + k + ", 2, 60)", x.sheet(k, 2, 60), 1);
            for (int i = 0; i < 60; i++) {
                Due.is("cell " + i + " of a new row", x.cell(k, i, 2), 0);
            }
            Due.is("put(" + k + ", 59, 5)", x.put(k, 59, 5), 1);
        }
        Due.is("sheet(0, 1, 3)", x.sheet(0, 1, 3), 1);
        Due.is("put(0, 2, 9)", x.put(0, 2, 9), 1);
        Due.is("put(0, 3, 9)", x.put(0, 3, 9), -13);
        Due.is("cell(0, 2, 2), of another lane", x.cell(0, 2, 2), LOST);
        Due.is("sheet(0, 1, 60)", x.sheet(0, 1, 60), 1);
        Due.is("cell(0, 2, 1) of the new row", x.cell(0, 2, 1), 0);
        Due.is("cell(0, 59, 1) of the new row", x.cell(0, 59, 1), 0);
        Due.is("sheet(0, 0, 0)", x.sheet(0, 0, 0), 1);
        Due.is("cell(0, 0, 0) of a row of none", x.cell(0, 0, 0), LOST);
        Due.is("fault()", x.fault(), 3);
        Due.is("cell(1, 59, 2) of another sheet", x.cell(1, 59, 2), 5);
    }

    private static void sheetRefusals() {
        StampRaids x = new StampRaids();
        Due.row(x, 1, 1, 7, 8);
        Due.is("sheet(4, 3, 61)", x.sheet(4, 3, 61), -1);
        Due.is("sheet(-1, 0, -1)", x.sheet(-1, 0, -1), -1);
        Due.is("sheet(1, 3, -1)", x.sheet(1, 3, -1), -2);
        Due.is("sheet(1, -1, -1)", x.sheet(1, -1, -1), -2);
        Due.is("sheet(1, 0, 61)", x.sheet(1, 0, 61), -2);
        Due.is("sheet(1, 0, MAX)", x.sheet(1, 0, Integer.MAX_VALUE), -2);
        Due.is("fault()", x.fault(), 0);
        Due.is("sheet(1, 0, -1)", x.sheet(1, 0, -1), -14);
        Due.is("fault()", x.fault(), 4);
        Due.is("sheet(1, 0, MIN)", x.sheet(1, 0, Integer.MIN_VALUE), -14);
        Due.is("the row stays: cell(1, 1, 1)", x.cell(1, 1, 1), 8);
        Due.is("sheet(2, 0, -1)", x.sheet(2, 0, -1), -14);
        Due.is("it has nothing still", x.lose(2), 0);
    }

    private static void lose() {
        StampRaids x = new StampRaids();
        Due.is("lose(0), of nothing", x.lose(0), 0);
        x.sheet(0, 2, 0);
        Due.is("lose(0), of a row of none", x.lose(0), 1);
        Due.is("lose(0), again", x.lose(0), 0);
        Due.row(x, 3, 1, 5);
        Due.row(x, 2, 1, 6);
        Due.is("lose(3)", x.lose(3), 1);
        Due.is("put(3, 0, 1)", x.put(3, 0, 1), -11);
        Due.is("cell(2, 0, 1) of another", x.cell(2, 0, 1), 6);
        Due.is("lose(4)", x.lose(4), -1);
        Due.is("lose(-1)", x.lose(-1), -1);
        x.sheet(3, 1, 1);
        Due.is("cell(3, 0, 1) anew", x.cell(3, 0, 1), 0);
    }

    private static void putAndCellByLane() {
        StampRaids x = new StampRaids();
        int[] put = {0, 1, -1, 127, 128, -128, -129, 255, 256, 300, 32767, 32768, -32768, -32769, 65535, 70001,
            Integer.MAX_VALUE, Integer.MIN_VALUE};
        int[][] due = {
            {0, 1, -1, 127, -128, -128, 127, -1, 0, 44, -1, 0, 0, -1, -1, 113, -1, 0},
            {0, 1, -1, 127, 128, -128, -129, 255, 256, 300, 32767, -32768, -32768, 32767, -1, 4465, -1, 0},
            put,
        };
        for (int lane = 0; lane < 3; lane++) {
            x.sheet(lane, lane, 60);
            for (int j = 0; j < put.length; j++) {
                int i = j == 0 ? 59 : j;
                Due.is("put " + put[j] + " to lane " + lane, x.put(lane, i, put[j]), 1);
                Due.is(put[j] + " in lane " + lane, x.cell(lane, i, lane), due[lane][j]);
                Due.is("fault()", x.fault(), 0);
            }
        }
    }

    private static void putRefusals() {
        StampRaids x = new StampRaids();
        Due.row(x, 1, 0, 3, 4);
        Due.is("put(4, 0, 1)", x.put(4, 0, 1), -1);
        Due.is("put(-1, 0, 1)", x.put(-1, 0, 1), -1);
        Due.is("fault()", x.fault(), 0);
        Due.is("put(0, -1, 1)", x.put(0, -1, 1), -11);
        Due.is("fault()", x.fault(), 1);
        Due.is("put(1, -1, 1)", x.put(1, -1, 1), -13);
        Due.is("fault()", x.fault(), 3);
        Due.is("put(1, 2, 1)", x.put(1, 2, 1), -13);
        Due.is("put(1, MAX, 1)", x.put(1, Integer.MAX_VALUE, 1), -13);
        Due.is("put(1, MIN, 1)", x.put(1, Integer.MIN_VALUE, 1), -13);
        Due.is("cell(1, 0, 0)", x.cell(1, 0, 0), 3);
        Due.is("cell(1, 1, 0)", x.cell(1, 1, 0), 4);
    }

    private static void cellRefusals() {
        StampRaids x = new StampRaids();
        Due.row(x, 1, 0, 3, 4);
        Due.is("put(0, 0, 1), a fault", x.put(0, 0, 1), -11);
        int[][] calls = {
            {4, 0, 0, 0}, {-1, 0, 3, 0}, {1, 0, 3, 0}, {1, 0, -1, 0}, {0, 0, 3, 0},
            {1, -1, 1, 2}, {1, 0, 2, 2}, {0, -1, 2, 1}, {1, -1, 0, 3}, {1, 2, 0, 3}, {1, Integer.MAX_VALUE, 0, 3},
        };
        for (int[] one : calls) {
            String call = "cell(" + one[0] + ", " + one[1] + ", " + one[2] + ")";
            Due.is(call, x.cell(one[0], one[1], one[2]), LOST);
            Due.is("fault() of " + call, x.fault(), one[3]);
        }
        Due.is("cell(1, 1, 0)", x.cell(1, 1, 0), 4);
        Due.is("fault()", x.fault(), 0);
    }

    private static void rowIs(StampRaids x, int k, int lane, int... due) {
        for (int i = 0; i < due.length; i++) {
            Due.is("cell(" + k + ", " + i + ", " + lane + ")", x.cell(k, i, lane), due[i]);
        }
    }

    private static void copy() {
        StampRaids x = new StampRaids();
        Due.row(x, 0, 1, 1, 2, 3, 4, 5);
        Due.row(x, 2, 1, 60, 70, 80);
        Due.is("copy(0, 1, 2, 0, 2)", x.copy(0, 1, 2, 0, 2), 2);
        rowIs(x, 2, 1, 2, 3, 80);
        rowIs(x, 0, 1, 1, 2, 3, 4, 5);
        Due.is("copy(0, 2, 2, 0, 3), whole", x.copy(0, 2, 2, 0, 3), 3);
        rowIs(x, 2, 1, 3, 4, 5);
        Due.is("copy(2, 3, 0, 5, 0), none at the ends", x.copy(2, 3, 0, 5, 0), 0);
        Due.is("fault()", x.fault(), 0);
        rowIs(x, 0, 1, 1, 2, 3, 4, 5);
        Due.is("copy(2, 0, 0, 2, 3)", x.copy(2, 0, 0, 2, 3), 3);
        rowIs(x, 0, 1, 1, 2, 3, 4, 5);
        Due.is("copy(2, 2, 0, 0, 1)", x.copy(2, 2, 0, 0, 1), 1);
        rowIs(x, 0, 1, 5, 2, 3, 4, 5);
    }

    private static void copyOntoItself() {
        for (int lane = 0; lane < 3; lane++) {
            StampRaids x = new StampRaids();
            Due.row(x, 3, lane, 1, 2, 3, 4, 5, 6);
            Due.is("copy(3, 0, 3, 1, 5)", x.copy(3, 0, 3, 1, 5), 5);
            rowIs(x, 3, lane, 1, 1, 2, 3, 4, 5);
            Due.is("copy(3, 2, 3, 0, 4)", x.copy(3, 2, 3, 0, 4), 4);
            rowIs(x, 3, lane, 2, 3, 4, 5, 4, 5);
            Due.is("copy(3, 0, 3, 0, 6)", x.copy(3, 0, 3, 0, 6), 6);
            rowIs(x, 3, lane, 2, 3, 4, 5, 4, 5);
        }
    }

    private static void copyRefusals() {
        StampRaids x = new StampRaids();
        Due.row(x, 0, 1, 1, 2, 3);
        Due.row(x, 1, 1, 4, 5);
        Due.row(x, 2, 2, 6, 7, 8);
        int max = Integer.MAX_VALUE;
        int[][] calls = {
            {4, 0, 3, 0, 1, -1}, {3, 0, 4, 0, 1, -1}, {-1, 0, 0, 0, 1, -1}, {0, 0, -1, 0, 1, -1},
            {3, -1, 2, 0, 1, -11}, {2, -1, 3, 0, 1, -11}, {3, 0, 3, 0, 0, -11}, {2, -1, 0, -1, -1, -12},
            {0, -1, 1, 0, 0, -13}, {0, 0, 1, -1, 0, -13}, {0, 0, 1, 0, -1, -13}, {0, 4, 1, 0, 0, -13},
            {0, 0, 1, 3, 0, -13}, {0, 2, 1, 0, 2, -13}, {0, 0, 1, 1, 2, -13}, {0, 0, 1, 0, 3, -13},
            {1, 0, 0, 0, 3, -13}, {0, 1, 1, 0, max, -13}, {0, max, 1, 0, max, -13}, {0, 0, 1, max, 1, -13},
            {0, 0, 0, 1, 3, -13}, {0, Integer.MIN_VALUE, 1, 0, 1, -13}, {0, 0, 1, 0, Integer.MIN_VALUE, -13},
        };
        for (int[] one : calls) {
            String call = "copy(" + one[0] + ", " + one[1] + ", " + one[2] + ", " + one[3] + ", " + one[4] + ")";
            Due.is(call, x.copy(one[0], one[1], one[2], one[3], one[4]), one[5]);
            Due.is("fault() of " + call, x.fault(), one[5] == -1 ? 0 : -10 - one[5]);
        }
        rowIs(x, 0, 1, 1, 2, 3);
        rowIs(x, 1, 1, 4, 5);
        rowIs(x, 2, 2, 6, 7, 8);
    }

    private static void tell() {
        StampRaids x = Due.begun(TEXT);
        int[] due = {5, 103, 104, 0, 107, 118};
        for (int p = 0; p < 6; p++) {
            Due.is("tell(" + p + ")", x.tell(p), due[p]);
        }
        Due.is("tell(6)", x.tell(6), -1);
        Due.is("tell(-1)", x.tell(-1), -1);
        Due.is("new tell(0)", new StampRaids().tell(0), -1);
        StampRaids plain = Due.begun(TEXT);
        plain.tell(0);
        Due.is("trace() of a plain one", plain.trace(), 1);
        StampRaids clerk = Due.begun(TEXT);
        clerk.tell(1);
        Due.is("trace() of a clerk", clerk.trace(), 2 * 31 + 1);
        StampRaids general = Due.begun(TEXT);
        general.tell(2);
        Due.is("trace() of a general", general.trace(), ((3 * 31 + 2) * 31 + 1) * 31 + 1);
        general.starch(2, 9);
        Due.is("tell(2), behind the starch", general.tell(2), 118);
    }

    private static void salute() {
        StampRaids x = Due.begun(TEXT);
        int[] due = {0, 1, 80, 3, 4, 80};
        int[] bodies = {4, 4, 5, 4, 4, 5};
        int trace = 0;
        for (int p = 0; p < 6; p++) {
            Due.is("salute(" + p + ")", x.salute(p), due[p]);
            trace = 31 * trace + bodies[p];
            Due.is("trace() behind it", x.trace(), trace);
        }
        Due.is("salute(6)", x.salute(6), -1);
        Due.is("salute(-1)", x.salute(-1), -1);
        Due.is("trace() stays", x.trace(), trace);
        Due.is("new salute(0)", new StampRaids().salute(0), -1);
    }

    private static void as() {
        StampRaids x = Due.begun(TEXT);
        int[] kinds = {0, 1, 2, 0, 1, 2};
        for (int p = 0; p < 6; p++) {
            for (int kind = 0; kind < 3; kind++) {
                boolean is = kind <= kinds[p];
                Due.is("as(" + p + ", " + kind + ")", x.as(p, kind), is ? 1 : -12);
                Due.is("fault()", x.fault(), is ? 0 : 2);
            }
        }
        Due.is("as(5, 3)", x.as(5, 3), -2);
        Due.is("as(0, 1)", x.as(0, 1), -12);
        Due.is("as(0, 3)", x.as(0, 3), -2);
        Due.is("fault()", x.fault(), 0);
        Due.is("as(0, -1)", x.as(0, -1), -2);
        Due.is("as(6, 3)", x.as(6, 3), -1);
        Due.is("as(-1, 0)", x.as(-1, 0), -1);
        Due.is("new as(0, 0)", new StampRaids().as(0, 0), -1);
    }

    private static void traceWrapsAndStays() {
        StampRaids x = Due.begun(TEXT);
        int trace = 0;
        for (int j = 0; j < 12; j++) {
            x.tell(5);
            trace = (((trace * 31 + 3) * 31 + 2) * 31 + 1) * 31 + 1;
            Due.is("trace() " + j, x.trace(), trace);
        }
        x.war(3, 0, 0, 47);
        Due.is("trace() behind a war", x.trace(), trace);
        x.tell(-1);
        Due.is("trace() behind a refusal", x.trace(), trace);
    }

    private static void faultOfTheLatestThatNamesOne() {
        StampRaids x = Due.begun(TEXT);
        Due.is("put(0, 0, 1)", x.put(0, 0, 1), -11);
        x.ofPerson(0, 0);
        x.rule(9, 9);
        x.decree(0, 0, 1);
        x.starch(0, 5);
        x.ofOffice(0, 0);
        x.strike(0, 0);
        x.wash(0);
        x.fetches(0, 1);
        x.undoing(0, 1, 0);
        x.ways(0, 1, 1);
        x.worn(0, 0, 0);
        x.raid(0, 0, 0);
        x.peace(0);
        x.reading(0, 5);
        x.back(0);
        x.necks(0);
        x.kinds(0);
        x.odds(0, 1, 0);
        x.lose(3);
        x.lose(9);
        x.tell(0);
        x.salute(0);
        x.trace();
        x.many(9);
        Due.is("fault(), as none of them names one", x.fault(), 1);
        Due.is("fault(), again", x.fault(), 1);
    }

    private static void refusalsMakeFaultNone() {
        for (int call = 0; call < 12; call++) {
            StampRaids x = Due.begun(TEXT);
            Due.row(x, 1, 1, 3, 9);
            Due.is("put(0, 0, 1)", x.put(0, 0, 1), -11);
            Due.is("call " + call, naming(x, call), new long[] {1, -1, -1, -2, 1, -1, 1, LOST, -1, 3, -1, 7}[call]);
            Due.is("fault() of call " + call, x.fault(), 0);
        }
    }

    private static long naming(StampRaids x, int call) {
        switch (call) {
            case 0: return x.sheet(0, 0, 1);
            case 1: return x.war(9, 0, 0, 0);
            case 2: return x.night(9, 0, 0, 0, 0);
            case 3: return x.fits(1, 1, 0, 2);
            case 4: return x.put(1, 0, 1);
            case 5: return x.put(9, 0, 1);
            case 6: return x.as(0, 0);
            case 7: return x.cell(9, 0, 1);
            case 8: return x.copy(9, 0, 1, 0, 1);
            case 9: return x.cell(1, 0, 1);
            case 10: return x.sheet(9, 0, -1);
            default: return x.fits(1, 1, 0, 1);
        }
    }

    private static void many() {
        StampRaids x = Due.begun(TEXT);
        x.strike(0, 0);
        x.strike(0, 9);
        x.strike(9, 0);
        x.strike(3, 0);
        x.wash(0);
        x.strike(5, 2);
        x.strike(5, 2);
        x.reading(0, 5);
        Due.row(x, 1, 1, 0, 0);
        x.night(1, 1, 0, 1, 0);
        Due.is("many(0)", x.many(0), 6);
        Due.is("many(1)", x.many(1), 4);
        Due.is("many(2)", x.many(2), 3);
        Due.is("many(3)", x.many(3), 1);
        Due.is("many(4)", x.many(4), -2);
        Due.is("many(-1)", x.many(-1), -2);
    }
}
