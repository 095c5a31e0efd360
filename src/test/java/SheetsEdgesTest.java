/** The edges that promises 23 to 33 name: each has a method of its own. */
public final class SheetsEdgesTest {
    private static final int MIN = Integer.MIN_VALUE, MAX = Integer.MAX_VALUE;
    private static final long LOST = Long.MIN_VALUE;
    private static final String TEXT = "w3025120013230333;p005;c103;g012;p120;c027;g119";

    public static void main(String[] args) {
        sheetOfNoCells();
        sheetOfSixtyCells();
        sheetOfTooManyOrTooFew();
        sheetLanesAtTheirEnds();
        sheetNumbersAtTheirEnds();
        sheetMadeAnewIsNone();
        sheetThatIsRefusedStays();
        loseOfARowOfNoCells();
        loseTwice();
        loseNumbersAtTheirEnds();
        bytesAreCut();
        shortsAreCut();
        intsAreNotCut();
        putAtTheEndsOfARow();
        putToNothing();
        cellOfAnotherLane();
        cellOfNothing();
        cellOfARowOfNoCells();
        cellAtTheEndsOfARow();
        cellRefusalsAreNoFaults();
        copyOfNoCells();
        copyOfARowOfNoCells();
        copyOfAllSixty();
        copyOneBeyond();
        copyWraps();
        copyBelowNone();
        copyOfNothing();
        copyNothingAheadOfCast();
        copyCastAheadOfIndex();
        copyNumbersAtTheirEnds();
        copyOntoItselfUpwards();
        copyOntoItselfDownwards();
        tellingsAtTheirEnds();
        bodiesAsTheyBegin();
        salutesOfEachKind();
        traceWraps();
        refusedTellingsLeaveNoTrace();
        asOfEachKind();
        asNumbersAtTheirEnds();
        faultAheadOfAny();
        faultBehindARefusal();
        faultBehindOneThatComesToNone();
        faultBehindOneThatNamesNone();
        manyAtItsEnds();
        manyStrikesOnlyByStrike();
        Due.end();
    }

    // ---- 23, 24

    private static void sheetOfNoCells() {
        StampRaids x = new StampRaids();
        for (int lane = 0; lane < 3; lane++) {
            Due.is(x, "sheet(0, " + lane + ", 0)", x.sheet(0, lane, 0), 1, 0);
            Due.is(x, "put(0, 0, 1)", x.put(0, 0, 1), -13, 3);
            Due.is(x, "put(0, -1, 1)", x.put(0, -1, 1), -13, 3);
        }
    }

    private static void sheetOfSixtyCells() {
        StampRaids x = new StampRaids();
        for (int lane = 0; lane < 3; lane++) {
            Due.is(x, "sheet(0, " + lane + ", 60)", x.sheet(0, lane, 60), 1, 0);
            for (int i = 0; i < 60; i++) {
                Due.is("cell " + i + " of lane " + lane, x.cell(0, i, lane), 0);
            }
            Due.is(x, "put(0, 59, 1)", x.put(0, 59, 1), 1, 0);
            Due.is(x, "put(0, 60, 1)", x.put(0, 60, 1), -13, 3);
        }
    }

    private static void sheetOfTooManyOrTooFew() {
        StampRaids x = new StampRaids();
        Due.is(x, "sheet(0, 0, 61)", x.sheet(0, 0, 61), -2, 0);
        Due.is(x, "sheet(0, 0, MAX)", x.sheet(0, 0, MAX), -2, 0);
        Due.is(x, "sheet(0, 0, -1)", x.sheet(0, 0, -1), -14, 4);
        Due.is(x, "sheet(0, 0, MIN)", x.sheet(0, 0, MIN), -14, 4);
        Due.is("it has nothing", x.lose(0), 0);
    }

    private static void sheetLanesAtTheirEnds() {
        StampRaids x = new StampRaids();
        int[] lanes = {MIN, -1, 3, MAX};
        for (int lane : lanes) {
            Due.is(x, "sheet(0, " + lane + ", 1)", x.sheet(0, lane, 1), -2, 0);
            Due.is(x, "sheet(0, " + lane + ", -1)", x.sheet(0, lane, -1), -2, 0);
        }
        Due.is("it has nothing", x.lose(0), 0);
    }

    private static void sheetNumbersAtTheirEnds() {
        StampRaids x = new StampRaids();
        int[] sheets = {MIN, -1, 4, MAX};
        for (int k : sheets) {
            Due.is(x, "sheet(" + k + ", 3, 61)", x.sheet(k, 3, 61), -1, 0);
            Due.is(x, "sheet(" + k + ", 0, -1)", x.sheet(k, 0, -1), -1, 0);
            Due.is(x, "put(" + k + ", 0, 0)", x.put(k, 0, 0), -1, 0);
            Due.is(x, "cell(" + k + ", 0, 0)", x.cell(k, 0, 0), LOST, 0);
        }
        Due.is("sheet(3, 2, 1)", x.sheet(3, 2, 1), 1);
        Due.is("sheet(0, 0, 1)", x.sheet(0, 0, 1), 1);
    }

    private static void sheetMadeAnewIsNone() {
        StampRaids x = new StampRaids();
        Due.row(x, 0, 2, 1, 2, 3);
        Due.is("fewer cells", x.sheet(0, 2, 2), 1);
        Due.is("cell(0, 0, 2)", x.cell(0, 0, 2), 0);
        Due.is("cell(0, 2, 2)", x.cell(0, 2, 2), LOST);
        Due.is("more cells", x.sheet(0, 2, 3), 1);
        Due.is("cell(0, 1, 2)", x.cell(0, 1, 2), 0);
        Due.is("cell(0, 2, 2)", x.cell(0, 2, 2), 0);
        Due.row(x, 0, 2, 1, 2, 3);
        Due.is("lose(0)", x.lose(0), 1);
        Due.is("behind nothing", x.sheet(0, 1, 3), 1);
        Due.is("cell(0, 2, 1)", x.cell(0, 2, 1), 0);
    }

    private static void sheetThatIsRefusedStays() {
        StampRaids x = new StampRaids();
        Due.row(x, 0, 2, 1, 2);
        x.sheet(0, 3, 1);
        x.sheet(0, 0, 61);
        x.sheet(0, 0, -1);
        Due.is("cell(0, 0, 2)", x.cell(0, 0, 2), 1);
        Due.is("cell(0, 1, 2)", x.cell(0, 1, 2), 2);
        Due.is("cell(0, 2, 2)", x.cell(0, 2, 2), LOST);
    }

    private static void loseOfARowOfNoCells() {
        StampRaids x = new StampRaids();
        x.sheet(1, 0, 0);
        Due.is("lose(1)", x.lose(1), 1);
        Due.is("put(1, 0, 0)", x.put(1, 0, 0), -11);
    }

    private static void loseTwice() {
        StampRaids x = new StampRaids();
        Due.is("of nothing", x.lose(1), 0);
        x.sheet(1, 0, 5);
        Due.is("of a row", x.lose(1), 1);
        Due.is("again", x.lose(1), 0);
    }

    private static void loseNumbersAtTheirEnds() {
        StampRaids x = new StampRaids();
        for (int k = 0; k < 4; k++) {
            x.sheet(k, 0, 1);
        }
        int[] sheets = {MIN, -1, 4, MAX};
        for (int k : sheets) {
            Due.is("lose(" + k + ")", x.lose(k), -1);
        }
        for (int k = 0; k < 4; k++) {
            Due.is("lose(" + k + ")", x.lose(k), 1);
        }
    }

    // ---- 25, 26

    private static void isCutTo(int lane, int v, int due) {
        StampRaids x = new StampRaids();
        x.sheet(0, lane, 3);
        Due.is(x, "put(0, 1, " + v + ")", x.put(0, 1, v), 1, 0);
        Due.is(x, v + " in lane " + lane, x.cell(0, 1, lane), due, 0);
        Due.is("the cell ahead of it", x.cell(0, 0, lane), 0);
        Due.is("the cell behind it", x.cell(0, 2, lane), 0);
    }

    private static void bytesAreCut() {
        isCutTo(0, 127, 127);
        isCutTo(0, 128, -128);
        isCutTo(0, -128, -128);
        isCutTo(0, -129, 127);
        isCutTo(0, 255, -1);
        isCutTo(0, 256, 0);
        isCutTo(0, MAX, -1);
        isCutTo(0, MIN, 0);
    }

    private static void shortsAreCut() {
        isCutTo(1, 128, 128);
        isCutTo(1, 32767, 32767);
        isCutTo(1, 32768, -32768);
        isCutTo(1, -32768, -32768);
        isCutTo(1, -32769, 32767);
        isCutTo(1, 65535, -1);
        isCutTo(1, 65536, 0);
        isCutTo(1, MAX, -1);
        isCutTo(1, MIN, 0);
    }

    private static void intsAreNotCut() {
        isCutTo(2, 32768, 32768);
        isCutTo(2, -32769, -32769);
        isCutTo(2, MAX, MAX);
        isCutTo(2, MIN, MIN);
        isCutTo(2, -1, -1);
    }

    private static void putAtTheEndsOfARow() {
        StampRaids x = new StampRaids();
        Due.row(x, 0, 2, 1, 2, 3);
        int[] places = {MIN, -1, 3, 59, 60, MAX};
        for (int i : places) {
            Due.is(x, "put(0, " + i + ", 9)", x.put(0, i, 9), -13, 3);
        }
        Due.is(x, "put(0, 0, 8)", x.put(0, 0, 8), 1, 0);
        Due.is(x, "put(0, 2, 7)", x.put(0, 2, 7), 1, 0);
        Due.is("cell(0, 0, 2)", x.cell(0, 0, 2), 8);
        Due.is("cell(0, 1, 2)", x.cell(0, 1, 2), 2);
        Due.is("cell(0, 2, 2)", x.cell(0, 2, 2), 7);
    }

    private static void putToNothing() {
        StampRaids x = new StampRaids();
        int[] places = {MIN, -1, 0, 60, MAX};
        for (int i : places) {
            Due.is(x, "put(0, " + i + ", 9)", x.put(0, i, 9), -11, 1);
        }
        Due.is("it has nothing", x.lose(0), 0);
    }

    private static void cellOfAnotherLane() {
        StampRaids x = new StampRaids();
        for (int lane = 0; lane < 3; lane++) {
            x.sheet(lane, lane, 2);
            for (int taken = 0; taken < 3; taken++) {
                boolean same = taken == lane;
                Due.is(x, "cell(" + lane + ", 0, " + taken + ")", x.cell(lane, 0, taken), same ? 0 : LOST,
                    same ? 0 : 2);
                Due.is(x, "cell(" + lane + ", 2, " + taken + ")", x.cell(lane, 2, taken), LOST, same ? 3 : 2);
            }
        }
    }

    private static void cellOfNothing() {
        StampRaids x = new StampRaids();
        for (int lane = 0; lane < 3; lane++) {
            Due.is(x, "cell(0, 0, " + lane + ")", x.cell(0, 0, lane), LOST, 1);
            Due.is(x, "cell(0, -1, " + lane + ")", x.cell(0, -1, lane), LOST, 1);
        }
        x.sheet(0, 2, 1);
        x.lose(0);
        Due.is(x, "cell(0, 0, 1), its row lost", x.cell(0, 0, 1), LOST, 1);
    }

    private static void cellOfARowOfNoCells() {
        StampRaids x = new StampRaids();
        x.sheet(0, 1, 0);
        Due.is(x, "cell(0, 0, 0)", x.cell(0, 0, 0), LOST, 2);
        Due.is(x, "cell(0, 0, 1)", x.cell(0, 0, 1), LOST, 3);
        Due.is(x, "cell(0, -1, 1)", x.cell(0, -1, 1), LOST, 3);
    }

    private static void cellAtTheEndsOfARow() {
        StampRaids x = new StampRaids();
        Due.row(x, 0, 1, 4, 5, 6);
        int[] places = {MIN, -1, 3, 60, MAX};
        for (int i : places) {
            Due.is(x, "cell(0, " + i + ", 1)", x.cell(0, i, 1), LOST, 3);
        }
        Due.is(x, "cell(0, 0, 1)", x.cell(0, 0, 1), 4, 0);
        Due.is(x, "cell(0, 2, 1)", x.cell(0, 2, 1), 6, 0);
    }

    private static void cellRefusalsAreNoFaults() {
        StampRaids x = new StampRaids();
        x.sheet(0, 1, 1);
        int[] lanes = {MIN, -1, 3, MAX};
        for (int lane : lanes) {
            Due.is(x, "cell(0, 5, " + lane + ")", x.cell(0, 5, lane), LOST, 0);
            Due.is(x, "cell(1, 5, " + lane + ")", x.cell(1, 5, lane), LOST, 0);
        }
    }

    // ---- 27

    private static void rowIs(StampRaids x, int k, int lane, int... due) {
        for (int i = 0; i < due.length; i++) {
            Due.is("cell(" + k + ", " + i + ", " + lane + ")", x.cell(k, i, lane), due[i]);
        }
        Due.is("no more cells of " + k, x.cell(k, due.length, lane), LOST);
    }

    private static void copyIs(StampRaids x, int[] with, int due, int fault) {
        StringBuilder call = new StringBuilder("copy");
        for (int number : with) {
            call.append(' ').append(number);
        }
        Due.is(x, call.toString(), x.copy(with[0], with[1], with[2], with[3], with[4]), due, fault);
    }

    private static int[] of(int... numbers) {
        return numbers;
    }

    private static StampRaids threeAndTwo() {
        StampRaids x = new StampRaids();
        Due.row(x, 0, 1, 1, 2, 3);
        Due.row(x, 1, 1, 8, 9);
        return x;
    }

    private static void copyOfNoCells() {
        StampRaids x = threeAndTwo();
        copyIs(x, of(0, 0, 1, 0, 0), 0, 0);
        copyIs(x, of(0, 3, 1, 2, 0), 0, 0);
        copyIs(x, of(0, 4, 1, 2, 0), -13, 3);
        copyIs(x, of(0, 3, 1, 3, 0), -13, 3);
        copyIs(x, of(0, -1, 1, 0, 0), -13, 3);
        copyIs(x, of(0, 0, 1, -1, 0), -13, 3);
        copyIs(x, of(0, 3, 0, 3, 0), 0, 0);
        rowIs(x, 0, 1, 1, 2, 3);
        rowIs(x, 1, 1, 8, 9);
    }

    private static void copyOfARowOfNoCells() {
        StampRaids x = threeAndTwo();
        x.sheet(2, 1, 0);
        copyIs(x, of(2, 0, 1, 0, 0), 0, 0);
        copyIs(x, of(1, 0, 2, 0, 0), 0, 0);
        copyIs(x, of(2, 0, 2, 0, 0), 0, 0);
        copyIs(x, of(2, 0, 1, 0, 1), -13, 3);
        copyIs(x, of(1, 0, 2, 0, 1), -13, 3);
        copyIs(x, of(2, 1, 1, 0, 0), -13, 3);
        x.sheet(2, 0, 0);
        copyIs(x, of(2, 0, 1, 0, 0), -12, 2);
        copyIs(x, of(1, 0, 2, 0, 0), -12, 2);
    }

    private static void copyOfAllSixty() {
        StampRaids x = new StampRaids();
        x.sheet(0, 0, 60);
        x.sheet(3, 0, 60);
        for (int i = 0; i < 60; i++) {
            x.put(0, i, i + 1);
        }
        copyIs(x, of(0, 0, 3, 0, 61), -13, 3);
        copyIs(x, of(0, 0, 3, 0, 60), 60, 0);
        for (int i = 0; i < 60; i++) {
            Due.is("cell(3, " + i + ", 0)", x.cell(3, i, 0), i + 1);
        }
    }

    private static void copyOneBeyond() {
        StampRaids x = threeAndTwo();
        copyIs(x, of(0, 1, 1, 0, 3), -13, 3);
        copyIs(x, of(0, 2, 1, 0, 2), -13, 3);
        copyIs(x, of(0, 0, 1, 1, 2), -13, 3);
        copyIs(x, of(0, 0, 1, 0, 3), -13, 3);
        copyIs(x, of(1, 0, 0, 0, 3), -13, 3);
        copyIs(x, of(0, 3, 1, 0, 1), -13, 3);
        copyIs(x, of(0, 0, 1, 2, 1), -13, 3);
        rowIs(x, 0, 1, 1, 2, 3);
        rowIs(x, 1, 1, 8, 9);
        copyIs(x, of(0, 1, 1, 0, 2), 2, 0);
        rowIs(x, 1, 1, 2, 3);
        copyIs(x, of(0, 0, 1, 1, 1), 1, 0);
        rowIs(x, 1, 1, 2, 1);
    }

    private static void copyWraps() {
        StampRaids x = threeAndTwo();
        copyIs(x, of(0, 1, 1, 1, MAX), -13, 3);
        copyIs(x, of(0, MAX, 1, 0, 1), -13, 3);
        copyIs(x, of(0, 0, 1, MAX, 1), -13, 3);
        copyIs(x, of(0, MAX, 1, MAX, MAX), -13, 3);
        copyIs(x, of(0, MAX, 1, 0, 0), -13, 3);
        rowIs(x, 0, 1, 1, 2, 3);
        rowIs(x, 1, 1, 8, 9);
    }

    private static void copyBelowNone() {
        StampRaids x = threeAndTwo();
        copyIs(x, of(0, 1, 1, 1, -1), -13, 3);
        copyIs(x, of(0, 1, 1, 1, MIN), -13, 3);
        copyIs(x, of(0, -1, 1, 0, 1), -13, 3);
        copyIs(x, of(0, MIN, 1, 0, 1), -13, 3);
        copyIs(x, of(0, 0, 1, -1, 1), -13, 3);
        copyIs(x, of(0, 0, 1, MIN, 1), -13, 3);
        copyIs(x, of(0, MIN, 1, MIN, MIN), -13, 3);
        rowIs(x, 0, 1, 1, 2, 3);
        rowIs(x, 1, 1, 8, 9);
    }

    private static void copyOfNothing() {
        StampRaids x = threeAndTwo();
        copyIs(x, of(3, 0, 0, 0, 0), -11, 1);
        copyIs(x, of(0, 0, 3, 0, 0), -11, 1);
        copyIs(x, of(3, 0, 3, 0, 0), -11, 1);
        copyIs(x, of(3, 0, 2, 0, 1), -11, 1);
        Due.is("it has nothing still", x.lose(3), 0);
    }

    private static void copyNothingAheadOfCast() {
        StampRaids x = threeAndTwo();
        x.sheet(2, 2, 3);
        copyIs(x, of(3, -1, 2, -1, -1), -11, 1);
        copyIs(x, of(2, -1, 3, -1, -1), -11, 1);
    }

    private static void copyCastAheadOfIndex() {
        StampRaids x = threeAndTwo();
        x.sheet(2, 2, 3);
        x.sheet(3, 0, 3);
        copyIs(x, of(0, 0, 2, 0, 1), -12, 2);
        copyIs(x, of(2, 0, 0, 0, 1), -12, 2);
        copyIs(x, of(3, 0, 0, 0, 1), -12, 2);
        copyIs(x, of(0, -1, 2, 9, -1), -12, 2);
        copyIs(x, of(0, 0, 3, 0, 0), -12, 2);
        rowIs(x, 2, 2, 0, 0, 0);
        rowIs(x, 0, 1, 1, 2, 3);
    }

    private static void copyNumbersAtTheirEnds() {
        StampRaids x = threeAndTwo();
        int[] sheets = {MIN, -1, 4, MAX};
        for (int k : sheets) {
            copyIs(x, of(k, 0, 0, 0, 0), -1, 0);
            copyIs(x, of(0, 0, k, 0, 0), -1, 0);
            copyIs(x, of(k, -1, k, -1, -1), -1, 0);
            copyIs(x, of(3, 0, k, 0, 0), -1, 0);
        }
    }

    private static void copyOntoItselfUpwards() {
        for (int lane = 0; lane < 3; lane++) {
            StampRaids x = new StampRaids();
            Due.row(x, 0, lane, 1, 2, 3, 4, 5);
            copyIs(x, of(0, 0, 0, 1, 4), 4, 0);
            rowIs(x, 0, lane, 1, 1, 2, 3, 4);
            copyIs(x, of(0, 0, 0, 1, 5), -13, 3);
        }
    }

    private static void copyOntoItselfDownwards() {
        for (int lane = 0; lane < 3; lane++) {
            StampRaids x = new StampRaids();
            Due.row(x, 0, lane, 1, 2, 3, 4, 5);
            copyIs(x, of(0, 1, 0, 0, 4), 4, 0);
            rowIs(x, 0, lane, 2, 3, 4, 5, 5);
            copyIs(x, of(0, 0, 0, 0, 5), 5, 0);
            rowIs(x, 0, lane, 2, 3, 4, 5, 5);
        }
    }

    // ---- 28 to 31

    private static void tellingsAtTheirEnds() {
        StampRaids x = Due.begun("w0000000000000000;p000;p109;c000;c109;g000;g109");
        int[] due = {0, 9, 100, 109, 100, 118};
        for (int p = 0; p < 6; p++) {
            Due.is("tell(" + p + ")", x.tell(p), due[p]);
        }
    }

    private static int traceOf(int p, boolean told) {
        StampRaids x = Due.begun(TEXT);
        int answer = told ? x.tell(p) : x.salute(p);
        return answer < 0 ? answer : x.trace();
    }

    private static void bodiesAsTheyBegin() {
        Due.is("a plain one: 1", traceOf(0, true), 1);
        Due.is("a clerk: 2, 1", traceOf(1, true), 63);
        Due.is("a general: 3, 2, 1, 1", traceOf(2, true), 91327);
    }

    private static void salutesOfEachKind() {
        Due.is("a plain one: 4", traceOf(3, false), 4);
        Due.is("a clerk: 4", traceOf(4, false), 4);
        Due.is("a general: 5", traceOf(5, false), 5);
        StampRaids x = Due.begun(TEXT);
        Due.is("salute(0)", x.salute(0), 0);
        Due.is("salute(1)", x.salute(1), 1);
        Due.is("salute(2)", x.salute(2), 80);
        Due.is("salute(4)", x.salute(4), 4);
        Due.is("salute(5)", x.salute(5), 80);
    }

    private static void traceWraps() {
        StampRaids x = Due.begun(TEXT);
        long whole = 0;
        for (int j = 0; j < 5; j++) {
            x.salute(2);
            whole = 31 * whole + 5;
            Due.is("not yet wrapped", x.trace(), whole);
        }
        int[] due = {147917280, 290468389, 414585472, -32752251};
        for (int trace : due) {
            x.salute(2);
            Due.is("wrapped from the second one on", x.trace(), trace);
        }
    }

    private static void refusedTellingsLeaveNoTrace() {
        StampRaids x = Due.begun(TEXT.substring(0, 27));
        x.salute(0);
        int[] whom = {MIN, -1, 2, 6, MAX};
        for (int p : whom) {
            Due.is("tell(" + p + ")", x.tell(p), -1);
            Due.is("salute(" + p + ")", x.salute(p), -1);
        }
        Due.is("trace()", x.trace(), 4);
        Due.is("trace() again", x.trace(), 4);
    }

    private static void asOfEachKind() {
        StampRaids x = Due.begun(TEXT);
        int[][] due = {{1, -12, -12}, {1, 1, -12}, {1, 1, 1}};
        for (int p = 0; p < 6; p++) {
            for (int kind = 0; kind < 3; kind++) {
                int answer = due[p % 3][kind];
                Due.is(x, "as(" + p + ", " + kind + ")", x.as(p, kind), answer, answer == 1 ? 0 : 2);
            }
        }
    }

    private static void asNumbersAtTheirEnds() {
        StampRaids x = Due.begun(TEXT);
        int[] kinds = {MIN, -1, 3, MAX};
        for (int kind : kinds) {
            Due.is(x, "as(0, " + kind + ")", x.as(0, kind), -2, 0);
        }
        int[] whom = {MIN, -1, 6, MAX};
        for (int p : whom) {
            Due.is(x, "as(" + p + ", 3)", x.as(p, 3), -1, 0);
            Due.is(x, "as(" + p + ", 0)", x.as(p, 0), -1, 0);
        }
    }

    // ---- 32, 33

    private static void faultAheadOfAny() {
        StampRaids x = new StampRaids();
        Due.is("fault()", x.fault(), 0);
        x.many(9);
        x.lose(9);
        Due.is("fault() behind refusals of those that name none", x.fault(), 0);
    }

    private static void faultBehindARefusal() {
        int[] due = {-1, -2, -1, -3, -1, -1, -2, -2, -1};
        for (int call = 0; call < due.length; call++) {
            StampRaids x = new StampRaids();
            Due.is(x, "put(0, 0, 0)", x.put(0, 0, 0), -11, 1);
            Due.is(x, "refused call " + call, refused(x, call), due[call], 0);
        }
        StampRaids x = new StampRaids();
        Due.is(x, "put(0, 0, 0)", x.put(0, 0, 0), -11, 1);
        Due.is(x, "cell(0, 0, 3)", x.cell(0, 0, 3), LOST, 0);
    }

    private static int refused(StampRaids x, int call) {
        switch (call) {
            case 0: return x.war(4, 0, 0, 0);
            case 1: return x.war(0, 3, 0, 0);
            case 2: return x.night(4, 0, 0, 0, 0);
            case 3: return x.night(0, 0, 0, 0, 0);
            case 4: return x.put(4, 0, 0);
            case 5: return x.as(0, 0);
            case 6: return x.sheet(0, 3, 0);
            case 7: return x.fits(0, 0, 0, 21);
            default: return x.copy(0, 0, 4, 0, 0);
        }
    }

    private static void faultBehindOneThatComesToNone() {
        for (int call = 0; call < 8; call++) {
            StampRaids x = Due.begun(TEXT);
            Due.is(x, "put(0, 0, 0)", x.put(0, 0, 0), -11, 1);
            Due.is("call " + call + " is answered", answered(x, call) >= 0 ? 1 : 0, 1);
            Due.is("fault() behind call " + call, x.fault(), 0);
        }
    }

    private static long answered(StampRaids x, int call) {
        switch (call) {
            case 0: return x.war(3, 0, 0, 47);
            case 1: return x.night(3, 0, 0, 0, 0);
            case 2: return x.fits(3, 0, 0, 0);
            case 3: return x.sheet(1, 0, 0);
            case 4: return x.put(3, 0, 0);
            case 5: return x.cell(3, 0, 0);
            case 6: return x.copy(3, 0, 3, 0, 0);
            default: return x.as(0, 0);
        }
    }

    private static void faultBehindOneThatNamesNone() {
        StampRaids x = Due.begun(TEXT);
        Due.is(x, "cell(3, 0, 1)", x.cell(3, 0, 1), LOST, 2);
        Due.is(x, "lose(3)", x.lose(3), 1, 2);
        Due.is(x, "odds(9, 0, 0)", x.odds(9, 0, 0), LOST, 2);
        Due.is(x, "tell(0)", x.tell(0), 5, 2);
        Due.is(x, "strike(0, 3)", x.strike(0, 3), -2, 2);
        Due.is(x, "trace()", x.trace(), 1, 2);
        Due.is(x, "many(0)", x.many(0), 6, 2);
    }

    private static void manyAtItsEnds() {
        StampRaids x = Due.begun(TEXT);
        int[] whats = {MIN, -1, 4, MAX};
        for (int what : whats) {
            Due.is("many(" + what + ")", x.many(what), -2);
        }
        Due.is("many(0)", x.many(0), 6);
        Due.is("many(3)", x.many(3), 0);
        StampRaids none = new StampRaids();
        for (int what = 0; what < 4; what++) {
            Due.is("many(" + what + ") without a war", none.many(what), 0);
        }
        Due.is("many(4) without a war", none.many(4), -2);
    }

    private static void manyStrikesOnlyByStrike() {
        StampRaids x = Due.begun(TEXT);
        Due.row(x, 0, 0, 0, 0, 1, 0);
        Due.is("a night of two strikes", x.night(0, 0, 0, 2, 3), 2);
        x.wash(2);
        Due.is("a strike without ink enough", Due.begun("w0000000000000000;p001;p101").strike(0, 0), -3);
        Due.is("many(2)", x.many(2), 0);
        x.strike(3, 0);
        x.strike(3, 3);
        Due.is("many(2)", x.many(2), 1);
        Due.is("many(1)", x.many(1), 5);
    }
}
