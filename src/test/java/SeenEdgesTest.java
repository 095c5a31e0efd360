/** The edges that promises 17 to 22 name: each has a method of its own. */
public final class SeenEdgesTest {
    private static final int MIN = Integer.MIN_VALUE, MAX = Integer.MAX_VALUE;
    private static final long LOST = Long.MIN_VALUE;
    private static final String TEXT = "w3025120013230333;p005;c103;g012;p120;c027;g119";

    public static void main(String[] args) {
        readingAtItsEnds();
        readingOfNoPerson();
        eighthAndNinthReading();
        fullBehindUnknownAndOutside();
        numberedAnewBehindBack();
        backAtItsEnds();
        backWithoutAWar();
        backOfAllEight();
        necksWithoutReadings();
        necksAtTheirEnds();
        necksOfAReadingThatNoneIs();
        necksOfTwoUnlikeReadings();
        necksWhereAnothersReadingIsNotSo();
        necksAreInPlaceOfTheNeckAlone();
        kindsWithoutReadings();
        kindsOfEachNumber();
        eachReadingHasOneKindAtMost();
        kindsOfAReadingThatNoneIs();
        kindsWhereAnothersReadingIsNotSo();
        readingsStayBehindStarch();
        setsOfNoPerson();
        fitsOfNoMarks();
        fitsOfOneMark();
        fitsOfTwentyMarks();
        fitsOfAllStampsAndOfNone();
        fitsByTheLastStep();
        fitsOfCellsThatAreNoMarks();
        fitsAtTheEndOfARow();
        fitsOfNothing();
        fitsOfARowOfNoCells();
        fitsOfNoSheetLaneOrLength();
        fitsWhateverWasRead();
        oddsByNone();
        oddsByNine();
        oddsThatAreNoneOrAll();
        oddsInLeastTerms();
        oddsTakeNoInk();
        oddsNumbersAtTheirEnds();
        Due.end();
    }

    // ---- 17

    private static void readingAtItsEnds() {
        StampRaids x = Due.begun(TEXT);
        int[] outside = {MIN, -1, 21, MAX};
        for (int v : outside) {
            Due.is("reading(0, " + v + ")", x.reading(0, v), -2);
        }
        Due.is("many(3)", x.many(3), 0);
        Due.is("reading(0, 0)", x.reading(0, 0), 0);
        Due.is("reading(0, 20)", x.reading(0, 20), 1);
        Due.is("many(3)", x.many(3), 2);
    }

    private static void readingOfNoPerson() {
        StampRaids x = Due.begun(TEXT.substring(0, 27));
        int[] whom = {MIN, -1, 2, 6, MAX};
        for (int p : whom) {
            Due.is("reading(" + p + ", 0)", x.reading(p, 0), -1);
        }
        Due.is("reading(1, 0)", x.reading(1, 0), 0);
    }

    private static StampRaids withEight() {
        StampRaids x = Due.begun(TEXT);
        for (int k = 0; k < 8; k++) {
            Due.is("reading " + k, x.reading(0, 5), k);
        }
        return x;
    }

    private static void eighthAndNinthReading() {
        StampRaids x = withEight();
        Due.is("many(3)", x.many(3), 8);
        Due.is("a ninth", x.reading(0, 6), -4);
        Due.is("many(3)", x.many(3), 8);
        Due.is("it is not among them", x.necks(0), 32);
        Due.is("back(1)", x.back(1), 7);
        Due.is("an eighth again", x.reading(0, 6), 7);
        Due.is("it is among them", x.necks(0), 0);
    }

    private static void fullBehindUnknownAndOutside() {
        StampRaids x = withEight();
        Due.is("reading(6, 0)", x.reading(6, 0), -1);
        Due.is("reading(0, 21)", x.reading(0, 21), -2);
        Due.is("reading(0, -1)", x.reading(0, -1), -2);
        Due.is("reading(5, 20)", x.reading(5, 20), -4);
    }

    // ---- 18

    private static void numberedAnewBehindBack() {
        StampRaids x = Due.begun(TEXT);
        x.reading(0, 5);
        x.reading(1, 4);
        x.back(1);
        Due.is("the second anew", x.reading(1, 5), 1);
        Due.is("the one taken back is none", x.necks(1), 16);
        x.back(2);
        Due.is("the first anew", x.reading(1, 4), 0);
        Due.is("necks(1)", x.necks(1), 8);
    }

    private static void backAtItsEnds() {
        StampRaids x = Due.begun(TEXT);
        x.reading(0, 5);
        x.reading(1, 4);
        int[] outside = {MIN, -1, 3, 8, MAX};
        for (int k : outside) {
            Due.is("back(" + k + ")", x.back(k), -2);
        }
        Due.is("back(0)", x.back(0), 2);
        Due.is("back(1), the last", x.back(1), 1);
        Due.is("the first is left", x.necks(0), 32);
        Due.is("the last is not", x.necks(1), 1023);
        Due.is("back(2)", x.back(2), -2);
        Due.is("back(1)", x.back(1), 0);
        Due.is("back(0)", x.back(0), 0);
        Due.is("back(1)", x.back(1), -2);
    }

    private static void backWithoutAWar() {
        StampRaids x = new StampRaids();
        Due.is("back(-1)", x.back(-1), -2);
        Due.is("back(0)", x.back(0), 0);
        Due.is("back(1)", x.back(1), -2);
    }

    private static void backOfAllEight() {
        StampRaids x = withEight();
        Due.is("back(9)", x.back(9), -2);
        Due.is("back(8)", x.back(8), 0);
        Due.is("many(3)", x.many(3), 0);
    }

    // ---- 19

    private static void necksWithoutReadings() {
        StampRaids x = Due.begun(TEXT);
        for (int p = 0; p < 6; p++) {
            Due.is("necks(" + p + ")", x.necks(p), 1023);
        }
    }

    private static void necksOf(int p, int v, int due) {
        StampRaids x = Due.begun(TEXT);
        x.reading(p, v);
        Due.is("necks(" + p + "), as it takes " + v, x.necks(p), due);
    }

    private static void necksAtTheirEnds() {
        necksOf(0, 0, 1);
        necksOf(0, 9, 512);
        necksOf(1, 1, 1);
        necksOf(1, 10, 512);
        necksOf(2, 2, 1);
        necksOf(2, 20, 512);
    }

    private static void necksOfAReadingThatNoneIs() {
        necksOf(0, 10, 0);
        necksOf(1, 0, 0);
        necksOf(1, 11, 0);
        necksOf(2, 0, 0);
        necksOf(2, 1, 0);
        necksOf(2, 19, 0);
    }

    private static void necksOfTwoUnlikeReadings() {
        StampRaids x = Due.begun(TEXT);
        x.reading(0, 3);
        x.reading(0, 3);
        Due.is("of two alike", x.necks(0), 8);
        x.reading(0, 4);
        Due.is("of two unlike", x.necks(0), 0);
    }

    private static void necksWhereAnothersReadingIsNotSo() {
        StampRaids x = Due.begun(TEXT);
        x.reading(0, 5);
        x.reading(1, 4);
        Due.is("another's is so: necks(2)", x.necks(2), 1023);
        Due.is("another's is so: necks(1)", x.necks(1), 8);
        x.reading(3, 1);
        Due.is("another's is not so: necks(2)", x.necks(2), 0);
        Due.is("another's is not so: necks(1)", x.necks(1), 0);
        Due.is("its own", x.necks(3), 2);
    }

    private static void necksAreInPlaceOfTheNeckAlone() {
        StampRaids x = Due.begun(TEXT);
        x.reading(2, 8);
        Due.is("of a general, as it is one", x.necks(2), 8);
        Due.is("neck of 2 stays", x.ofPerson(2, 3), 2);
        Due.is("takes of 2 stays", x.ofPerson(2, 4), 6);
    }

    // ---- 20

    private static void kindsWithoutReadings() {
        StampRaids x = Due.begun(TEXT);
        for (int p = 0; p < 6; p++) {
            Due.is("kinds(" + p + ")", x.kinds(p), 7);
        }
    }

    /** The kinds of one whose neck is told, by one reading. */
    private static void kindsOf(int neck, int v, int due) {
        for (int p = 0; p < 3; p++) {
            StampRaids x = Due.begun(TEXT);
            x.starch(p, neck);
            x.reading(p, v);
            Due.is("kinds(" + p + ") of neck " + neck + ", as it takes " + v, x.kinds(p), due);
        }
    }

    private static void kindsOfEachNumber() {
        kindsOf(0, 0, 1);
        kindsOf(9, 9, 1);
        kindsOf(0, 1, 2);
        kindsOf(9, 10, 2);
        kindsOf(0, 2, 4);
        kindsOf(9, 20, 4);
    }

    private static void eachReadingHasOneKindAtMost() {
        // By no neck two kinds take as much, so three readings of all have a kind each.
        for (int neck = 0; neck <= 9; neck++) {
            StampRaids x = Due.begun(TEXT);
            x.starch(0, neck);
            int all = 0;
            for (int v = 0; v <= 20; v++) {
                x.reading(0, v);
                all += Integer.bitCount(x.kinds(0));
                x.back(1);
            }
            Due.is("each kind of neck " + neck + " by one reading", all, 3);
        }
    }

    private static void kindsOfAReadingThatNoneIs() {
        kindsOf(0, 3, 0);
        kindsOf(5, 4, 0);
        kindsOf(5, 7, 0);
        kindsOf(5, 11, 0);
        kindsOf(5, 13, 0);
        kindsOf(9, 19, 0);
    }

    private static void kindsWhereAnothersReadingIsNotSo() {
        StampRaids x = Due.begun(TEXT);
        x.reading(0, 5);
        x.reading(1, 4);
        Due.is("another's is so: kinds(2)", x.kinds(2), 7);
        Due.is("another's is so: kinds(1)", x.kinds(1), 2);
        x.reading(3, 1);
        Due.is("another's is not so: kinds(2)", x.kinds(2), 0);
        Due.is("another's is not so: kinds(1)", x.kinds(1), 0);
        Due.is("its own", x.kinds(3), 2);
    }

    private static void readingsStayBehindStarch() {
        StampRaids x = Due.begun(TEXT);
        x.reading(0, 5);
        x.starch(0, 4);
        Due.is("necks(0)", x.necks(0), 32);
        Due.is("kinds(0)", x.kinds(0), 2);
        Due.is("necks(1), as 0 does not take 5 now", x.necks(1), 0);
        Due.is("kinds(1), as 0 does not take 5 now", x.kinds(1), 0);
        x.strike(0, 0);
        x.wash(0);
        Due.is("many(3)", x.many(3), 1);
    }

    private static void setsOfNoPerson() {
        StampRaids x = Due.begun(TEXT.substring(0, 27));
        int[] whom = {MIN, -1, 2, 6, MAX};
        for (int p : whom) {
            Due.is("necks(" + p + ")", x.necks(p), -1);
            Due.is("kinds(" + p + ")", x.kinds(p), -1);
        }
        Due.is("necks(1)", x.necks(1), 1023);
        Due.is("kinds(1)", x.kinds(1), 7);
    }

    // ---- 21

    private static StampRaids told(String rules, int... marks) {
        StampRaids x = Due.begun("w0000" + rules + ";p000;p100");
        Due.row(x, 0, 1, marks);
        return x;
    }

    private static void fitsOfNoMarks() {
        StampRaids x = told("000000000000", 3, 3);
        Due.is(x, "fits(0, 1, 0, 0)", x.fits(0, 1, 0, 0), 7, 0);
        Due.is(x, "fits(0, 1, 2, 0), at the end", x.fits(0, 1, 2, 0), 7, 0);
        Due.is(x, "fits(0, 1, -1, 0)", x.fits(0, 1, -1, 0), -13, 3);
        Due.is(x, "fits(0, 1, 3, 0)", x.fits(0, 1, 3, 0), -13, 3);
        Due.is(x, "fits(0, 1, MAX, 0)", x.fits(0, 1, MAX, 0), -13, 3);
        Due.is(x, "fits(0, 1, MIN, 0)", x.fits(0, 1, MIN, 0), -13, 3);
    }

    private static void fitsOfOneMark() {
        StampRaids x = told("000000000000", 3, 3);
        Due.is("fits(0, 1, 0, 1)", x.fits(0, 1, 0, 1), 7);
        Due.is("fits(0, 1, 1, 1)", x.fits(0, 1, 1, 1), 7);
        Due.is("fits(0, 1, 0, 2)", x.fits(0, 1, 0, 2), 0);
    }

    private static void fitsOfTwentyMarks() {
        int[] marks = new int[60];
        for (int j = 0; j < 60; j++) {
            marks[j] = j % 4;
        }
        StampRaids x = told("012123230301", marks);
        Due.is("twenty", x.fits(0, 1, 0, 20), 2);
        Due.is(x, "twenty-one", x.fits(0, 1, 0, 21), -2, 0);
        x.put(0, 19, 1);
        Due.is("twenty, the last not so", x.fits(0, 1, 0, 20), 0);
        Due.is("nineteen", x.fits(0, 1, 0, 19), 2);
        x.put(0, 20, 7);
        x.put(0, 19, 3);
        Due.is("what is not told is not looked at", x.fits(0, 1, 0, 20), 2);
    }

    private static void fitsOfAllStampsAndOfNone() {
        StampRaids x = told("111222333000", 0, 1, 2, 3, 0);
        Due.is("all", x.fits(0, 1, 0, 5), 7);
        x.decree(2, 1, 0);
        Due.is("all but 1", x.fits(0, 1, 0, 5), 5);
        x.decree(0, 0, 3);
        Due.is("2 alone", x.fits(0, 1, 0, 5), 4);
        x.decree(3, 2, 3);
        Due.is("none", x.fits(0, 1, 0, 5), 0);
        Due.is("with the same stamp", x.fits(0, 1, 1, 4), 1);
    }

    private static void fitsByTheLastStep() {
        StampRaids x = told("111222333012", 0, 1, 2, 3, 2);
        Due.is("up to the last step", x.fits(0, 1, 0, 4), 7);
        Due.is("by the last step", x.fits(0, 1, 0, 5), 4);
        Due.is("the last step alone", x.fits(0, 1, 3, 2), 4);
    }

    private static void fitsOfCellsThatAreNoMarks() {
        int[] outside = {-1, 4};
        for (int cell : outside) {
            for (int place = 0; place < 3; place++) {
                StampRaids x = told("000111222333", 3, 3, 3);
                x.put(0, place, cell);
                Due.is(x, cell + " at " + place, x.fits(0, 1, 0, 3), -2, 0);
            }
        }
        StampRaids ends = told("000111222333", 3, 3);
        Due.row(ends, 1, 2, MIN, MAX, 0, 3);
        Due.is(ends, "int's least", ends.fits(1, 2, 0, 1), -2, 0);
        Due.is(ends, "int's greatest", ends.fits(1, 2, 1, 1), -2, 0);
        Due.is(ends, "0 and 3", ends.fits(1, 2, 2, 2), 0, 0);
        Due.is(ends, "one that is not so, and no mark", ends.fits(1, 2, 1, 3), -2, 0);
    }

    private static void fitsAtTheEndOfARow() {
        StampRaids x = told("000111222333", 3, 3, 3);
        Due.is(x, "fits(0, 1, 1, 2)", x.fits(0, 1, 1, 2), 7, 0);
        Due.is(x, "fits(0, 1, 2, 2)", x.fits(0, 1, 2, 2), -13, 3);
        Due.is(x, "fits(0, 1, 0, 4)", x.fits(0, 1, 0, 4), -13, 3);
        Due.is(x, "fits(0, 1, -1, 2)", x.fits(0, 1, -1, 2), -13, 3);
        Due.is(x, "fits(0, 1, MAX, 1)", x.fits(0, 1, MAX, 1), -13, 3);
        Due.is(x, "fits(0, 1, MAX, 20)", x.fits(0, 1, MAX, 20), -13, 3);
        Due.is(x, "fits(0, 1, MIN, 20)", x.fits(0, 1, MIN, 20), -13, 3);
    }

    private static void fitsOfNothing() {
        StampRaids x = told("000111222333", 3);
        for (int lane = 0; lane < 3; lane++) {
            Due.is(x, "fits(2, " + lane + ", 0, 0)", x.fits(2, lane, 0, 0), -11, 1);
            Due.is(x, "fits(2, " + lane + ", -1, 20)", x.fits(2, lane, -1, 20), -11, 1);
        }
    }

    private static void fitsOfARowOfNoCells() {
        StampRaids x = told("000111222333");
        Due.is(x, "fits(0, 1, 0, 0)", x.fits(0, 1, 0, 0), 7, 0);
        Due.is(x, "fits(0, 1, 0, 1)", x.fits(0, 1, 0, 1), -13, 3);
        Due.is(x, "fits(0, 1, 1, 0)", x.fits(0, 1, 1, 0), -13, 3);
        Due.is(x, "fits(0, 0, 0, 0)", x.fits(0, 0, 0, 0), -12, 2);
        Due.is(x, "fits(0, 2, 1, 1)", x.fits(0, 2, 1, 1), -12, 2);
    }

    private static void fitsOfNoSheetLaneOrLength() {
        StampRaids x = told("000111222333", 3);
        int[] sheets = {MIN, -1, 4, MAX};
        for (int sheet : sheets) {
            Due.is(x, "fits(" + sheet + ", 3, 0, 21)", x.fits(sheet, 3, 0, 21), -1, 0);
        }
        int[] lanes = {MIN, -1, 3, MAX};
        for (int lane : lanes) {
            Due.is(x, "fits(0, " + lane + ", 0, 0)", x.fits(0, lane, 0, 0), -2, 0);
        }
        int[] ns = {MIN, -1, 21, MAX};
        for (int n : ns) {
            Due.is(x, "fits(0, 1, 0, " + n + ")", x.fits(0, 1, 0, n), -2, 0);
        }
    }

    private static void fitsWhateverWasRead() {
        StampRaids x = told("012123230301", 0, 1, 2);
        x.reading(0, 20);
        Due.is("necks(1), as the reading is not so", x.necks(1), 0);
        Due.is("fits(0, 1, 0, 3)", x.fits(0, 1, 0, 3), 2);
    }

    // ---- 22

    private static void oddsAre(StampRaids x, int p, int n, int upper, int lower) {
        Due.is("odds(" + p + ", " + n + ", 0)", x.odds(p, n, 0), upper);
        Due.is("odds(" + p + ", " + n + ", 1)", x.odds(p, n, 1), lower);
    }

    private static StampRaids struck(String rules) {
        return Due.begun("w0000" + rules + ";p009;p119;p029;p139");
    }

    private static void oddsByNone() {
        StampRaids x = struck("111111111111");
        oddsAre(x, 0, 0, 1, 1);
        oddsAre(x, 1, 0, 0, 1);
        oddsAre(x, 2, 0, 1, 1);
        oddsAre(x, 3, 0, 0, 1);
    }

    private static void oddsByNine() {
        StampRaids x = struck("001111223333");
        oddsAre(x, 0, 9, 512, 19683);
        oddsAre(x, 2, 9, 512, 19683);
        oddsAre(x, 0, 1, 2, 3);
        oddsAre(x, 0, 2, 4, 9);
        StampRaids y = struck("001111223330");
        // It stays 3, becomes 0 at any of nine places, stays 0: nine times 256 rows.
        oddsAre(y, 3, 9, 256, 2187);
    }

    private static void oddsThatAreNoneOrAll() {
        StampRaids x = struck("111111111111");
        oddsAre(x, 0, 1, 0, 1);
        oddsAre(x, 3, 9, 0, 1);
        StampRaids y = struck("222222222222");
        oddsAre(y, 0, 1, 1, 1);
        oddsAre(y, 3, 9, 1, 1);
    }

    private static void oddsInLeastTerms() {
        StampRaids x = struck("013013013013");
        oddsAre(x, 0, 1, 1, 3);
        oddsAre(x, 0, 2, 1, 3);
        oddsAre(x, 3, 9, 1, 3);
        StampRaids y = struck("022111013333");
        // By two: 0 stays so by 0, becomes 2 by 1 and 2, that becomes 0 by a third: 3 and 2 of 9.
        oddsAre(y, 0, 2, 5, 9);
        // One step further 5 of 9 are 3 at mark 0 and 2 at mark 2: 11 of 27.
        oddsAre(y, 0, 3, 11, 27);
    }

    private static void oddsTakeNoInk() {
        StampRaids x = struck("001111223333");
        Due.is("there is no ink", x.strike(0, 0), -3);
        oddsAre(x, 0, 1, 2, 3);
        Due.is("mark stays", x.ofPerson(0, 2), 0);
        Due.is("many(2)", x.many(2), 0);
    }

    private static void oddsNumbersAtTheirEnds() {
        StampRaids x = struck("001111223333");
        int[] whom = {MIN, -1, 4, 6, MAX};
        for (int p : whom) {
            Due.is("odds(" + p + ", 0, 0)", x.odds(p, 0, 0), LOST);
        }
        int[] ns = {MIN, -1, 10, MAX};
        for (int n : ns) {
            Due.is("odds(0, " + n + ", 0)", x.odds(0, n, 0), LOST);
        }
        int[] whichs = {MIN, -1, 2, MAX};
        for (int which : whichs) {
            Due.is("odds(0, 0, " + which + ")", x.odds(0, 0, which), LOST);
        }
        Due.is("odds(3, 9, 1)", x.odds(3, 9, 1), 1);
        Due.is("odds(3, 9, 0)", x.odds(3, 9, 0), 0);
    }
}
