/** Promises 12 to 16: undoing, ways, worn, raids, peace. */
public final class MarksTest {
    private static final String TEXT = "w3025120013230333;p005;c103;g012;p120;c027;g119";

    public static void main(String[] args) {
        undoing();
        undoingOfSeveralTheFirst();
        undoingThatIsNone();
        undoingRefusals();
        ways();
        waysRefusals();
        worn();
        wornRefusals();
        raid();
        raidByTheFewestStamps();
        raidOfSeveralTheLeast();
        raidThatCantBe();
        raidRefusals();
        peace();
        peaceOfTheDearest();
        peaceRefusals();
        Due.end();
    }

    /** How many stamps, and which; what is not there is NONE. */
    private static void undoingIs(StampRaids x, int from, int to, int... due) {
        String call = "undoing(" + from + ", " + to + ", ";
        Due.is(call + "-1)", x.undoing(from, to, -1), due.length);
        for (int k = 0; k < 3; k++) {
            Due.is(call + k + ")", x.undoing(from, to, k), k < due.length ? due[k] : -9);
        }
    }

    private static void noUndoing(StampRaids x, int from, int to) {
        for (int k = -1; k < 3; k++) {
            Due.is("undoing(" + from + ", " + to + ", " + k + ")", x.undoing(from, to, k), -9);
        }
    }

    private static void undoing() {
        StampRaids x = Due.begun(TEXT);
        for (int mark = 0; mark < 4; mark++) {
            undoingIs(x, mark, mark);
        }
        undoingIs(x, 0, 1, 0);
        undoingIs(x, 0, 2, 1);
        undoingIs(x, 0, 3, 0, 2);
        undoingIs(x, 1, 0, 0);
        undoingIs(x, 1, 2, 0, 1);
        undoingIs(x, 1, 3, 2);
        undoingIs(x, 2, 1, 2, 0);
        undoingIs(x, 2, 3, 1);
        noUndoing(x, 3, 0);
        noUndoing(x, 3, 1);
        noUndoing(x, 3, 2);
    }

    private static void undoingOfSeveralTheFirst() {
        // 0 becomes 3 by 0 1, by 1 0, by 1 2, by 2 1: the first as a row, though by stamp 2 it is nearer to none.
        StampRaids x = Due.begun("w0000121131323000;p000;p100");
        undoingIs(x, 0, 3, 0, 1);
        undoingIs(x, 0, 1, 0);
        // Only the third stamp goes on from each mark: a row of three.
        StampRaids far = Due.begun("w0000001112223333;p000;p100");
        undoingIs(far, 0, 3, 2, 2, 2);
        undoingIs(far, 1, 3, 2, 2);
        // A row of one is fewer than one that is smaller as a row.
        StampRaids near = Due.begun("w0000103310222333;p000;p100");
        undoingIs(near, 0, 3, 2);
        undoingIs(near, 1, 0, 2);
        // The first stamp leads nowhere, the two others as fast.
        StampRaids two = Due.begun("w0000321003003333;p000;p100");
        undoingIs(two, 0, 2, 1);
        undoingIs(two, 0, 1, 2);
        undoingIs(two, 1, 2, 0, 1);
        undoingIs(two, 2, 1, 0, 2);
        undoingIs(two, 2, 3, 2);
        undoingIs(two, 1, 3, 2);
    }

    private static void undoingThatIsNone() {
        StampRaids x = Due.begun("w0000000111222333;p000;p100");
        for (int from = 0; from < 4; from++) {
            for (int to = 0; to < 4; to++) {
                if (from != to) {
                    noUndoing(x, from, to);
                }
            }
        }
        x.decree(0, 2, 1);
        undoingIs(x, 0, 1, 2);
    }

    private static void undoingRefusals() {
        StampRaids x = new StampRaids();
        Due.is("new undoing(4, 0, 0)", x.undoing(4, 0, 0), -3);
        Due.is("new undoing(0, 0, -1)", x.undoing(0, 0, -1), -3);
        x = Due.begun(TEXT);
        Due.is("undoing(4, 0, 0)", x.undoing(4, 0, 0), -2);
        Due.is("undoing(-1, 0, 0)", x.undoing(-1, 0, 0), -2);
        Due.is("undoing(0, 4, 0)", x.undoing(0, 4, 0), -2);
        Due.is("undoing(0, -1, 0)", x.undoing(0, -1, 0), -2);
        Due.is("undoing(0, 1, -2)", x.undoing(0, 1, -2), -2);
        Due.is("undoing(0, 1, 3)", x.undoing(0, 1, 3), -2);
        Due.is("undoing(3, 0, 3)", x.undoing(3, 0, 3), -2);
    }

    private static void ways() {
        StampRaids x = Due.begun(TEXT);
        // By none it is itself; by one: 0 becomes 1, 2, 0; by two 0 becomes 0 1 3, 2 3 0, 1 2 0.
        int[][] due = {{1, 0, 0, 0}, {1, 1, 1, 0}, {3, 2, 2, 2}};
        for (int n = 0; n < 3; n++) {
            for (int to = 0; to < 4; to++) {
                Due.is("ways(0, " + to + ", " + n + ")", x.ways(0, to, n), due[n][to]);
            }
        }
        int rows = 1;
        for (int n = 0; n < 10; n++) {
            Due.is("ways(3, 3, " + n + ")", x.ways(3, 3, n), rows);
            Due.is("ways(3, 0, " + n + ")", x.ways(3, 0, n), 0);
            int sum = 0;
            for (int to = 0; to < 4; to++) {
                sum += x.ways(1, to, n);
            }
            Due.is("all ways from 1 by " + n, sum, rows);
            rows *= 3;
        }
        // 0 stays by one stamp and becomes 1 by two; 1 stays: 0 is left by one row alone.
        StampRaids y = Due.begun("w0000011111222333;p000;p100");
        Due.is("ways(0, 0, 9)", y.ways(0, 0, 9), 1);
        Due.is("ways(0, 1, 9)", y.ways(0, 1, 9), 19682);
        Due.is("ways(0, 1, 4)", y.ways(0, 1, 4), 80);
    }

    private static void waysRefusals() {
        Due.is("new ways(4, 0, 10)", new StampRaids().ways(4, 0, 10), -3);
        StampRaids x = Due.begun(TEXT);
        Due.is("ways(4, 0, 1)", x.ways(4, 0, 1), -2);
        Due.is("ways(-1, 0, 1)", x.ways(-1, 0, 1), -2);
        Due.is("ways(0, 4, 1)", x.ways(0, 4, 1), -2);
        Due.is("ways(0, -1, 1)", x.ways(0, -1, 1), -2);
        Due.is("ways(0, 0, 10)", x.ways(0, 0, 10), -2);
        Due.is("ways(0, 0, -1)", x.ways(0, 0, -1), -2);
    }

    private static void wornIs(StampRaids x, int mark, int stamp, int ahead, int by) {
        Due.is("worn(" + mark + ", " + stamp + ", 0)", x.worn(mark, stamp, 0), ahead);
        Due.is("worn(" + mark + ", " + stamp + ", 1)", x.worn(mark, stamp, 1), by);
    }

    private static void worn() {
        // Stamp 0: 0 1 2 3 3; stamp 1: 0 1 2 3 0; stamp 2: 0 2 1 2, 3 2.
        StampRaids x = Due.begun("w0000112222331302;p000;p100");
        wornIs(x, 0, 0, 3, 1);
        wornIs(x, 1, 0, 2, 1);
        wornIs(x, 2, 0, 1, 1);
        wornIs(x, 3, 0, 0, 1);
        for (int mark = 0; mark < 4; mark++) {
            wornIs(x, mark, 1, 0, 4);
        }
        wornIs(x, 0, 2, 1, 2);
        wornIs(x, 1, 2, 0, 2);
        wornIs(x, 2, 2, 0, 2);
        wornIs(x, 3, 2, 1, 2);
        x.decree(2, 1, 0);
        wornIs(x, 0, 1, 0, 3);
        wornIs(x, 3, 1, 1, 3);
        x.decree(1, 1, 0);
        x.decree(2, 1, 1);
        wornIs(x, 3, 1, 1, 2);
        x.decree(3, 1, 2);
        wornIs(x, 3, 1, 2, 2);
    }

    private static void wornRefusals() {
        Due.is("new worn(4, 3, 2)", new StampRaids().worn(4, 3, 2), -3);
        StampRaids x = Due.begun(TEXT);
        Due.is("worn(4, 0, 0)", x.worn(4, 0, 0), -2);
        Due.is("worn(-1, 0, 0)", x.worn(-1, 0, 0), -2);
        Due.is("worn(0, 3, 0)", x.worn(0, 3, 0), -2);
        Due.is("worn(0, -1, 0)", x.worn(0, -1, 0), -2);
        Due.is("worn(0, 0, 2)", x.worn(0, 0, 2), -2);
        Due.is("worn(0, 0, -1)", x.worn(0, 0, -1), -2);
    }

    private static void raidIs(StampRaids x, int office, int n, int ink, int set) {
        Due.is("raid(" + office + ", " + n + ", 0)", x.raid(office, n, 0), ink);
        Due.is("raid(" + office + ", " + n + ", 1)", x.raid(office, n, 1), set);
    }

    private static void raid() {
        StampRaids x = Due.begun(TEXT);
        // Of office 1: 1 takes 4 and needs one stamp, 3 takes nothing; of office 0: 0 takes 5, 4 takes 8, one each.
        raidIs(x, 0, 0, 4, 10);
        raidIs(x, 0, 1, 0, 8);
        raidIs(x, 1, 0, 13, 17);
        raidIs(x, 1, 1, 5, 1);
        for (int n = 2; n <= 6; n++) {
            raidIs(x, 0, n, 0, 0);
            raidIs(x, 1, n, 0, 0);
        }
        // Ink without end: the raid costs more than any office has.
        StampRaids dear = Due.begun("w0000111111111111;g139;g109;g109;g109;g109;g109");
        raidIs(dear, 0, 0, 100, 62);
        raidIs(dear, 0, 2, 60, 14);
        raidIs(dear, 1, 0, 0, 0);
    }

    private static void raidByTheFewestStamps() {
        // 0 becomes 2, and 2 becomes 0 or 3: two stamps for those of mark 0, one for those of mark 2.
        StampRaids x = Due.begun("w0000222000003333;p105;p128;g024;c000");
        raidIs(x, 0, 0, 18, 3);
        raidIs(x, 0, 1, 8, 2);
        raidIs(x, 1, 0, 12, 12);
        raidIs(x, 1, 1, 2, 8);
        x.strike(0, 0);
        x.starch(0, 5);
        raidIs(x, 0, 1, 8, 2);
    }

    private static void raidOfSeveralTheLeast() {
        StampRaids x = Due.begun("w0000111111111111;p103;p103;p103;p100;p100;p010");
        raidIs(x, 0, 4, 0, 8);
        raidIs(x, 0, 3, 0, 24);
        raidIs(x, 0, 2, 3, 25);
        raidIs(x, 0, 1, 6, 27);
        raidIs(x, 0, 0, 9, 31);
        // 0 for 6 or both 1 and 2 for 6, where two must be struck: the two cheap ones.
        StampRaids y = Due.begun("w0000111111111111;p106;p103;p103;p013");
        raidIs(y, 0, 1, 6, 6);
        raidIs(y, 0, 2, 3, 2);
        // Whoever takes nothing is struck too where the set is less by it: 0 and 1 are as cheap as 1 alone, and more.
        StampRaids z = Due.begun("w0000111111111111;p100;p104;p013");
        raidIs(z, 0, 1, 0, 1);
    }

    private static void raidThatCantBe() {
        // 0 stays 0, 2 becomes 1: those of mark 0 stay at work.
        StampRaids x = Due.begun("w9999000111112333;p105;p125;p120;p019;p000");
        raidIs(x, 0, 0, -9, -9);
        raidIs(x, 0, 1, 5, 6);
        raidIs(x, 0, 2, 0, 4);
        raidIs(x, 1, 0, -9, -9);
        raidIs(x, 1, 1, 0, 0);
    }

    private static void raidRefusals() {
        Due.is("new raid(2, 7, 2)", new StampRaids().raid(2, 7, 2), -3);
        StampRaids x = Due.begun(TEXT);
        Due.is("raid(2, 0, 0)", x.raid(2, 0, 0), -2);
        Due.is("raid(-1, 0, 0)", x.raid(-1, 0, 0), -2);
        Due.is("raid(0, 7, 0)", x.raid(0, 7, 0), -2);
        Due.is("raid(0, -1, 0)", x.raid(0, -1, 0), -2);
        Due.is("raid(0, 0, 2)", x.raid(0, 0, 2), -2);
        Due.is("raid(0, 0, -1)", x.raid(0, 0, -1), -2);
    }

    private static void peaceIs(StampRaids x, int twos, int takes) {
        Due.is("peace(0)", x.peace(0), twos);
        Due.is("peace(1)", x.peace(1), takes);
    }

    private static void peace() {
        StampRaids x = Due.begun(TEXT);
        peaceIs(x, 2, 17);
        x.strike(3, 1);
        peaceIs(x, 1, 12);
        x.strike(1, 0);
        peaceIs(x, 0, 0);
    }

    private static void peaceOfTheDearest() {
        // Not at work: 2, though it takes the most.
        StampRaids x = Due.begun("w0000111111111111;p002;g009;g039;p105;p007;p102");
        peaceIs(x, 2, 34);
        StampRaids y = Due.begun("w0000111111111111;p100;p101;p102;p103;p104;c000");
        peaceIs(y, 1, 5);
        StampRaids z = Due.begun("w0000111111111111;p009;p009");
        peaceIs(z, 0, 0);
    }

    private static void peaceRefusals() {
        Due.is("new peace(2)", new StampRaids().peace(2), -3);
        StampRaids x = Due.begun(TEXT);
        Due.is("peace(2)", x.peace(2), -2);
        Due.is("peace(-1)", x.peace(-1), -2);
    }
}
