/** Promises 8 to 11: strikes, washings, ink that is fetched, nights that are told. */
public final class StrikesTest {
    private static final String TEXT = "w3025120013230333;p005;c103;g012;p120;c027;g119";

    public static void main(String[] args) {
        strike();
        strikesForWhichThereIsNoInk();
        wash();
        fetches();
        nightOfNothing();
        nightByItsParts();
        nightOfFirstWrong();
        nightOfWashings();
        nightAnswersOfAShortWar();
        nightRefusals();
        nightPairsInOrder();
        nightChangesNothing();
        Due.end();
    }

    private static void strike() {
        StampRaids x = Due.begun(TEXT);
        Due.is("strike(0, 0)", x.strike(0, 0), 1);
        Due.is("ink of the other office", x.ofOffice(1, 0), 20);
        Due.is("ink of its own", x.ofOffice(0, 0), 30);
        Due.is("strike(0, 2)", x.strike(0, 2), 3);
        Due.is("strike(1, 1)", x.strike(1, 1), 2);
        Due.is("ink of 0", x.ofOffice(0, 0), 26);
        Due.is("strike(2, 1), the mark as it was", x.strike(2, 1), 1);
        Due.is("ink of 1", x.ofOffice(1, 0), 9);
        Due.is("strike(3, 0) for nothing", x.strike(3, 0), 2);
        Due.is("ink of 0", x.ofOffice(0, 0), 26);
        Due.is("many(2)", x.many(2), 5);
        Due.is("mark of 0", x.ofPerson(0, 2), 3);
        Due.is("mark of 1", x.ofPerson(1, 2), 2);
        Due.is("strike(6, 3)", x.strike(6, 3), -1);
        Due.is("strike(-1, 0)", x.strike(-1, 0), -1);
        Due.is("strike(0, 3)", x.strike(0, 3), -2);
        Due.is("strike(0, -1)", x.strike(0, -1), -2);
        Due.is("many(2)", x.many(2), 5);
    }

    private static void strikesForWhichThereIsNoInk() {
        StampRaids x = Due.begun("w0705100000000000;p006;p107;p107;p105");
        Due.is("strike(0, 3) without ink", x.strike(0, 3), -2);
        Due.is("strike(0, 0) without ink", x.strike(0, 0), -3);
        Due.is("mark of 0", x.ofPerson(0, 2), 0);
        Due.is("ink of 1", x.ofOffice(1, 0), 5);
        Due.is("many(2)", x.many(2), 0);
        Due.is("strike(1, 0), all the ink there is", x.strike(1, 0), 1);
        Due.is("ink of 0", x.ofOffice(0, 0), 0);
        Due.is("strike(2, 0) without ink", x.strike(2, 0), -3);
        Due.is("many(2)", x.many(2), 1);
        x.starch(2, 0);
        Due.is("strike(2, 0) that takes nothing", x.strike(2, 0), 1);
        Due.is("many(2)", x.many(2), 2);
    }

    private static void wash() {
        StampRaids x = Due.begun("w0201000000000000;p035;p120;g000");
        Due.is("wash(0)", x.wash(0), 3);
        Due.is("mark of 0", x.ofPerson(0, 2), 0);
        Due.is("ink of its office", x.ofOffice(0, 0), 1);
        Due.is("ink of the other", x.ofOffice(1, 0), 1);
        Due.is("wash(2) of mark 0", x.wash(2), 0);
        Due.is("ink of its office", x.ofOffice(0, 0), 0);
        Due.is("wash(0) without ink", x.wash(0), -3);
        Due.is("wash(1)", x.wash(1), 2);
        Due.is("wash(1) without ink", x.wash(1), -3);
        Due.is("wash(3)", x.wash(3), -1);
        Due.is("wash(-1)", x.wash(-1), -1);
        Due.is("many(2), no strikes", x.many(2), 0);
        StampRaids none = Due.begun("w0009000000000000;p035;p120");
        Due.is("wash(0) without ink", none.wash(0), -3);
        Due.is("its mark stays", none.ofPerson(0, 2), 3);
        Due.is("ink stays", none.ofOffice(0, 0), 0);
        Due.is("new wash(0)", new StampRaids().wash(0), -1);
    }

    private static void fetches() {
        StampRaids x = Due.begun(TEXT);
        Due.is("fetches(0, 1)", x.fetches(0, 1), 31);
        Due.is("fetches(1, 73)", x.fetches(1, 73), 98);
        Due.is("fetches(1, 1)", x.fetches(1, 1), 99);
        Due.is("fetches(1, 1) of a full one", x.fetches(1, 1), 99);
        Due.is("fetches(0, 99)", x.fetches(0, 99), 99);
        Due.is("ofOffice(0, 0)", x.ofOffice(0, 0), 99);
        Due.is("fetches(0, 0)", x.fetches(0, 0), -2);
        Due.is("fetches(0, 100)", x.fetches(0, 100), -2);
        Due.is("fetches(0, MAX)", x.fetches(0, Integer.MAX_VALUE), -2);
        Due.is("fetches(0, -1)", x.fetches(0, -1), -2);
        Due.is("fetches(2, 1)", x.fetches(2, 1), -2);
        Due.is("fetches(-1, 1)", x.fetches(-1, 1), -2);
        Due.is("new fetches(2, 0)", new StampRaids().fetches(2, 0), -3);
    }

    /** All that a night answers, in the order of the document, held against what is due. */
    private static void nightIs(StampRaids x, int sheet, int lane, int i, int n, int... due) {
        int[] whats = {0, 1, 2, 3, 4, 10, 11, 12, 13, 14, 15};
        for (int j = 0; j < whats.length; j++) {
            String call = "night(" + sheet + ", " + lane + ", " + i + ", " + n + ", " + whats[j] + ")";
            Due.is(call, x.night(sheet, lane, i, n, whats[j]), due[j]);
        }
        Due.is("fault() behind it", x.fault(), 0);
    }

    private static void nightOfNothing() {
        StampRaids x = Due.begun(TEXT);
        Due.row(x, 0, 1);
        nightIs(x, 0, 1, 0, 0, 55, -9, 27, 0, 0, 0, 0, 1, 2, 2, 1);
    }

    private static void nightByItsParts() {
        StampRaids x = Due.begun(TEXT);
        // 3 stays 2, then 1 becomes 1: more of office 0 at work; 0 becomes 1: as many; 2 is washed: more again.
        Due.row(x, 0, 1, 99, 3, 0, 1, 0, 0, 0, 2, 3, 1, 2);
        nightIs(x, 0, 1, 1, 1, 55, -9, 27, 0, 0, 0, 0, 1, 2, 2, 1);
        nightIs(x, 0, 1, 1, 2, 51, -9, 25, 1, 1, 0, 1, 1, 2, 2, 1);
        nightIs(x, 0, 1, 1, 3, 46, -9, 24, 2, 1, 1, 1, 1, 2, 2, 1);
        nightIs(x, 0, 1, 1, 4, 45, -9, 28, 2, 2, 1, 1, 0, 2, 2, 1);
        nightIs(x, 0, 1, 1, 5, 41, -9, 28, 3, 3, 1, 3, 0, 2, 2, 1);
    }

    private static void nightOfFirstWrong() {
        StampRaids x = Due.begun("w1111120013230333;p005;c103;g012;p120;c027;g119");
        // Office 1 has 11: 5 for the first, 6 for the second, none for the third; the fourth is never come to.
        Due.row(x, 2, 2, 0, 0, 2, 1, 0, 0, 1, 1);
        nightIs(x, 2, 2, 0, 2, 11, -9, 26, 1, 0, 1, 0, 1, 2, 2, 1);
        nightIs(x, 2, 2, 0, 3, -102, 2, -102, -102, -102, -102, -102, -102, -102, -102, -102);
        nightIs(x, 2, 2, 0, 4, -102, 2, -102, -102, -102, -102, -102, -102, -102, -102, -102);
        Due.row(x, 2, 2, 5, 0);
        nightIs(x, 2, 2, 0, 1, -100, 0, -100, -100, -100, -100, -100, -100, -100, -100, -100);
    }

    private static void nightOfWashings() {
        StampRaids x = Due.begun("w0102000100000000;p035;p110");
        Due.row(x, 1, 0, 0, 3, 1, 3, 1, 0, 0, 3, 1, 3);
        nightIs(x, 1, 0, 0, 1, 2, -9, 1, 0, 1, 0, 1, -9, -9, -9, -9);
        nightIs(x, 1, 0, 0, 2, 1, -9, 3, 0, 1, 0, 0, -9, -9, -9, -9);
        nightIs(x, 1, 0, 0, 3, 1, -9, 3, 0, 1, 0, 0, -9, -9, -9, -9);
        nightIs(x, 1, 0, 0, 4, -103, 3, -103, -103, -103, -103, -103, -103, -103, -103, -103);
        nightIs(x, 1, 0, 8, 1, 2, -9, 2, 0, 0, 3, 0, -9, -9, -9, -9);
    }

    private static void nightAnswersOfAShortWar() {
        StampRaids x = Due.begun("w9900333333333333;p139;p000");
        int[] cells = new int[40];
        for (int j = 1; j < 40; j += 2) {
            cells[j] = 2;
        }
        x.starch(0, 4);
        Due.row(x, 0, 2, cells);
        nightIs(x, 0, 2, 0, 20, 19, -9, 2, 0, 20, 3, 0, -9, -9, -9, -9);
        x.starch(0, 5);
        nightIs(x, 0, 2, 0, 19, 4, -9, 2, 0, 19, 3, 0, -9, -9, -9, -9);
        nightIs(x, 0, 2, 0, 20, -119, 19, -119, -119, -119, -119, -119, -119, -119, -119, -119);
    }

    private static void nightRefusals() {
        StampRaids x = new StampRaids();
        Due.write(x, 3, 0, TEXT);
        Due.row(x, 1, 1, 0, 0, 0, 0);
        Due.is("new night(4, 3, -1, 21, 5)", x.night(4, 3, -1, 21, 5), -1);
        Due.is("new night(1, 3, -1, 1, 0)", x.night(1, 3, -1, 1, 0), -2);
        Due.is("new night(1, 0, -1, 21, 0)", x.night(1, 0, -1, 21, 0), -2);
        Due.is("new night(1, 0, -1, 1, 0)", x.night(1, 0, -1, 1, 0), -3);
        Due.is("new night(0, 0, -1, 1, 0)", x.night(0, 0, -1, 1, 0), -3);
        x.war(3, 0, 0, 47);
        Due.is("night(4, 3, -1, 21, 5)", x.night(4, 3, -1, 21, 5), -1);
        Due.is("night(-1, 3, -1, 21, 5)", x.night(-1, 3, -1, 21, 5), -1);
        int[][] outside = {{3, 1, 0}, {-1, 1, 0}, {0, -1, 0}, {0, 21, 0}, {0, 1, -1}, {0, 1, 5}, {0, 1, 9}, {0, 1, 16}};
        for (int[] one : outside) {
            Due.is("night(1, " + one[0] + ", -1, " + one[1] + ", " + one[2] + ")",
                x.night(1, one[0], -1, one[1], one[2]), -2);
            Due.is("fault()", x.fault(), 0);
        }
        Due.is("night(1, 0, -1, 1, 0)", x.night(1, 0, -1, 1, 0), -12);
        Due.is("fault()", x.fault(), 2);
        Due.is("night(0, 0, -1, 1, 0)", x.night(0, 0, -1, 1, 0), -11);
        Due.is("fault()", x.fault(), 1);
        Due.is("night(1, 1, -1, 1, 0)", x.night(1, 1, -1, 1, 0), -13);
        Due.is("fault()", x.fault(), 3);
        Due.is("night(1, 1, -1, 0, 0)", x.night(1, 1, -1, 0, 0), -13);
        Due.is("night(1, 1, 5, 0, 0)", x.night(1, 1, 5, 0, 0), -13);
        Due.is("night(1, 1, 4, 0, 0)", x.night(1, 1, 4, 0, 0), 55);
        Due.is("night(1, 1, 3, 1, 0)", x.night(1, 1, 3, 1, 0), -13);
        Due.is("night(1, 1, 2, 1, 0)", x.night(1, 1, 2, 1, 0), 50);
        Due.is("night(1, 1, 0, 3, 0)", x.night(1, 1, 0, 3, 0), -13);
        Due.is("night(1, 1, MAX, 20, 0)", x.night(1, 1, Integer.MAX_VALUE, 20, 0), -13);
    }

    private static void nightPairsInOrder() {
        StampRaids x = Due.begun("w0000120013230333;p005;c103;g012");
        Due.row(x, 0, 2, 3, 4, 0, 0);
        Due.is("both wrong: the second first", x.night(0, 2, 0, 2, 0), -2);
        Due.row(x, 0, 2, 3, 0, 0, 4);
        Due.is("the first pair first", x.night(0, 2, 0, 2, 0), -1);
        Due.row(x, 0, 2, 0, 4, 3, 0);
        Due.is("the first pair first", x.night(0, 2, 0, 2, 0), -2);
        Due.row(x, 0, 2, 0, 0, -1, 3);
        Due.is("ahead of any act", x.night(0, 2, 0, 2, 0), -1);
        Due.is("what 1, too", x.night(0, 2, 0, 2, 1), -1);
        Due.is("fault()", x.fault(), 0);
        Due.is("what is not told is not looked at", x.night(0, 2, 0, 1, 1), 0);
        Due.row(x, 0, 2, 0, 0, 0, 4, 0, 0);
        Due.is("the second pair's second alone", x.night(0, 2, 0, 3, 0), -2);
        Due.row(x, 0, 2, 0, 0, 0, 0, 3, 0);
        Due.is("the third pair's first alone", x.night(0, 2, 0, 3, 0), -1);
        Due.row(x, 0, 2, 0, -1);
        Due.is("below 0", x.night(0, 2, 0, 1, 0), -2);
        Due.row(x, 0, 2, 2, 3);
        Due.is("the last person, a washing", x.night(0, 2, 0, 1, 1), 0);
    }

    private static void nightChangesNothing() {
        StampRaids x = Due.begun(TEXT);
        Due.row(x, 0, 0, 0, 0, 1, 1, 2, 3, 3, 1, 4, 2);
        Due.is("the night", x.night(0, 0, 0, 5, 0), 37);
        Due.is("the same again", x.night(0, 0, 0, 5, 0), 37);
        Due.is("ink of 0", x.ofOffice(0, 0), 30);
        Due.is("ink of 1", x.ofOffice(1, 0), 25);
        Due.is("many(1)", x.many(1), 4);
        Due.is("many(2)", x.many(2), 0);
        int[] marks = {0, 0, 1, 2, 2, 1};
        for (int p = 0; p < 6; p++) {
            Due.is("mark of " + p, x.ofPerson(p, 2), marks[p]);
        }
        x.strike(0, 0);
        x.decree(0, 0, 3);
        x.starch(1, 0);
        Due.row(x, 0, 0, 1, 0);
        Due.is("from how all is now: ink", x.night(0, 0, 0, 1, 0), 49);
        Due.is("from how all is now: marks", x.night(0, 0, 0, 1, 10), 1);
        Due.is("from how all is now: rules", x.night(0, 0, 0, 1, 11), 3);
    }
}
