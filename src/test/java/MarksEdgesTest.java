/** The edges that promises 12 to 16 name: each has a method of its own. */
public final class MarksEdgesTest {
    private static final int MIN = Integer.MIN_VALUE, MAX = Integer.MAX_VALUE;
    private static final int NONE = -9;

    public static void main(String[] args) {
        undoingOfItself();
        undoingOfOneTwoThree();
        undoingPastItsEnd();
        undoingThatIsNone();
        undoingFewestAheadOfFirst();
        undoingFirstAsARow();
        undoingNumbersAtTheirEnds();
        undoingByDecrees();
        waysByNone();
        waysByNine();
        waysThatAreNone();
        waysNumbersAtTheirEnds();
        wornOfOneThatStays();
        wornLongestAhead();
        wornLongestRound();
        wornNumbersAtTheirEnds();
        raidOfAsManyAsAreAtWork();
        raidOfNobody();
        raidOfThoseNotAtWork();
        raidByOneStamp();
        raidByTwoStamps();
        raidOfOneWhoStaysAtWork();
        raidBeyondAllInk();
        raidWithoutInk();
        raidForNothing();
        raidLeastOfAsCheap();
        raidCheapestAheadOfLeast();
        raidIsOnTheOther();
        raidOfAllSix();
        raidNumbersAtTheirEnds();
        peaceOfNobody();
        peaceOfThoseNotAtWork();
        peaceOfOneAndFive();
        peaceOfThreeAndThree();
        peaceOfThoseThatTakeNothing();
        peaceAsManyAheadOfMost();
        peaceNumbersAtTheirEnds();
        Due.end();
    }

    /** By rules, with two people that nothing here asks for. */
    private static StampRaids ruled(String rules) {
        return Due.begun("w0000" + rules + ";p000;p100");
    }

    // ---- 12

    /** How many stamps, which (0 .. 2), and NONE past them. */
    private static void undoingIs(StampRaids x, int from, int to, int... due) {
        String call = "undoing(" + from + ", " + to + ", ";
        Due.is(call + "-1)", x.undoing(from, to, -1), due.length);
        for (int k = 0; k < 3; k++) {
            Due.is(call + k + ")", x.undoing(from, to, k), k < due.length ? due[k] : NONE);
        }
    }

    private static void undoingOfItself() {
        StampRaids x = ruled("123123123123");
        for (int mark = 0; mark < 4; mark++) {
            undoingIs(x, mark, mark);
        }
        StampRaids stays = ruled("000111222333");
        for (int mark = 0; mark < 4; mark++) {
            undoingIs(stays, mark, mark);
        }
    }

    private static void undoingOfOneTwoThree() {
        StampRaids x = ruled("001112223333");
        undoingIs(x, 0, 1, 2);
        undoingIs(x, 0, 2, 2, 2);
        undoingIs(x, 0, 3, 2, 2, 2);
        StampRaids y = ruled("000011112222");
        undoingIs(y, 3, 0, 0, 0, 0);
        undoingIs(y, 2, 0, 0, 0);
        undoingIs(y, 3, 1, 0, 0);
    }

    private static void undoingPastItsEnd() {
        StampRaids x = ruled("001112223333");
        Due.is("undoing(0, 1, 0)", x.undoing(0, 1, 0), 2);
        Due.is("undoing(0, 1, 1)", x.undoing(0, 1, 1), NONE);
        Due.is("undoing(0, 2, 1)", x.undoing(0, 2, 1), 2);
        Due.is("undoing(0, 2, 2)", x.undoing(0, 2, 2), NONE);
        Due.is("undoing(0, 3, 2)", x.undoing(0, 3, 2), 2);
        Due.is("undoing(0, 0, 0)", x.undoing(0, 0, 0), NONE);
    }

    private static void undoingThatIsNone() {
        StampRaids x = ruled("001112223333");
        for (int k = -1; k < 3; k++) {
            Due.is("undoing(3, 0, " + k + ")", x.undoing(3, 0, k), NONE);
            Due.is("undoing(1, 0, " + k + ")", x.undoing(1, 0, k), NONE);
        }
    }

    private static void undoingFewestAheadOfFirst() {
        // By 0 0, that is first as a row, and by 2 alone.
        undoingIs(ruled("103333000000"), 0, 3, 2);
        // By 0 0 1, that is first as a row, and by 2 1.
        undoingIs(ruled("102222030000"), 0, 3, 2, 1);
    }

    private static void undoingFirstAsARow() {
        // By 0 2, by 1 0, by 2 0: the first as a row, though its second stamp is the greatest.
        undoingIs(ruled("122003300333"), 0, 3, 0, 2);
        // All stamps alike.
        undoingIs(ruled("111222333000"), 0, 3, 0, 0, 0);
        // By 1 and by 2.
        undoingIs(ruled("011000000000"), 0, 1, 1);
        // By 1 2 and by 2 2.
        undoingIs(ruled("122020223333"), 0, 3, 1, 2);
    }

    private static void undoingNumbersAtTheirEnds() {
        StampRaids x = ruled("001112223333");
        int[] marks = {MIN, -1, 4, MAX};
        for (int mark : marks) {
            Due.is("undoing(" + mark + ", 0, -1)", x.undoing(mark, 0, -1), -2);
            Due.is("undoing(0, " + mark + ", -1)", x.undoing(0, mark, -1), -2);
        }
        int[] ks = {MIN, -2, 3, MAX};
        for (int k : ks) {
            Due.is("undoing(0, 3, " + k + ")", x.undoing(0, 3, k), -2);
            Due.is("undoing(3, 0, " + k + ")", x.undoing(3, 0, k), -2);
        }
        Due.is("undoing(0, 3, -1)", x.undoing(0, 3, -1), 3);
        Due.is("undoing(3, 3, -1)", x.undoing(3, 3, -1), 0);
    }

    private static void undoingByDecrees() {
        StampRaids x = ruled("001112223333");
        x.decree(3, 1, 0);
        undoingIs(x, 3, 0, 1);
        undoingIs(x, 3, 2, 1, 2, 2);
        x.decree(0, 0, 2);
        undoingIs(x, 3, 2, 1, 0);
        undoingIs(x, 0, 3, 0, 2);
    }

    // ---- 13

    private static void waysByNone() {
        StampRaids x = ruled("123012301230");
        for (int from = 0; from < 4; from++) {
            for (int to = 0; to < 4; to++) {
                Due.is("ways(" + from + ", " + to + ", 0)", x.ways(from, to, 0), from == to ? 1 : 0);
            }
        }
    }

    private static void waysByNine() {
        StampRaids x = ruled("000011112222");
        Due.is("ways(0, 0, 9)", x.ways(0, 0, 9), 19683);
        // 1 stays by two stamps of three, and 0 is for good.
        Due.is("ways(1, 0, 9)", x.ways(1, 0, 9), 19171);
        Due.is("ways(1, 1, 9)", x.ways(1, 1, 9), 512);
        StampRaids same = ruled("111111111111");
        Due.is("ways(0, 1, 1)", same.ways(0, 1, 1), 3);
        Due.is("ways(3, 1, 9)", same.ways(3, 1, 9), 19683);
        Due.is("ways(3, 3, 9)", same.ways(3, 3, 9), 0);
    }

    private static void waysThatAreNone() {
        StampRaids x = ruled("111222333000");
        Due.is("ways(0, 1, 2)", x.ways(0, 1, 2), 0);
        Due.is("ways(0, 2, 2)", x.ways(0, 2, 2), 9);
        Due.is("ways(0, 1, 9)", x.ways(0, 1, 9), 19683);
        Due.is("ways(0, 0, 9)", x.ways(0, 0, 9), 0);
        Due.is("ways(0, 0, 8)", x.ways(0, 0, 8), 6561);
    }

    private static void waysNumbersAtTheirEnds() {
        StampRaids x = ruled("123012301230");
        int[] marks = {MIN, -1, 4, MAX};
        for (int mark : marks) {
            Due.is("ways(" + mark + ", 0, 0)", x.ways(mark, 0, 0), -2);
            Due.is("ways(0, " + mark + ", 0)", x.ways(0, mark, 0), -2);
        }
        int[] ns = {MIN, -1, 10, MAX};
        for (int n : ns) {
            Due.is("ways(0, 0, " + n + ")", x.ways(0, 0, n), -2);
        }
        Due.is("ways(3, 3, 0)", x.ways(3, 3, 0), 1);
    }

    // ---- 14

    private static void wornIs(StampRaids x, int mark, int stamp, int ahead, int by) {
        Due.is("worn(" + mark + ", " + stamp + ", 0)", x.worn(mark, stamp, 0), ahead);
        Due.is("worn(" + mark + ", " + stamp + ", 1)", x.worn(mark, stamp, 1), by);
    }

    private static void wornOfOneThatStays() {
        StampRaids x = ruled("000111222333");
        for (int mark = 0; mark < 4; mark++) {
            for (int stamp = 0; stamp < 3; stamp++) {
                wornIs(x, mark, stamp, 0, 1);
            }
        }
    }

    private static void wornLongestAhead() {
        StampRaids x = ruled("100200300300");
        wornIs(x, 0, 0, 3, 1);
        wornIs(x, 1, 0, 2, 1);
        wornIs(x, 2, 0, 1, 1);
        wornIs(x, 3, 0, 0, 1);
        wornIs(x, 3, 2, 1, 1);
    }

    private static void wornLongestRound() {
        StampRaids x = ruled("001002003000");
        for (int mark = 0; mark < 4; mark++) {
            wornIs(x, mark, 2, 0, 4);
        }
        x.decree(3, 2, 1);
        wornIs(x, 0, 2, 1, 3);
        wornIs(x, 1, 2, 0, 3);
        x.decree(3, 2, 2);
        wornIs(x, 0, 2, 2, 2);
        wornIs(x, 1, 2, 1, 2);
        wornIs(x, 2, 2, 0, 2);
        x.decree(3, 2, 3);
        wornIs(x, 0, 2, 3, 1);
    }

    private static void wornNumbersAtTheirEnds() {
        StampRaids x = ruled("001002003000");
        int[][] calls = {{-1, 0, 0}, {4, 0, 0}, {MIN, 0, 0}, {MAX, 0, 0}, {0, -1, 0}, {0, 3, 0}, {0, MIN, 0},
            {0, MAX, 0}, {0, 0, -1}, {0, 0, 2}, {0, 0, MIN}, {0, 0, MAX}};
        for (int[] one : calls) {
            Due.is("worn(" + one[0] + ", " + one[1] + ", " + one[2] + ")", x.worn(one[0], one[1], one[2]), -2);
        }
        Due.is("worn(3, 2, 1)", x.worn(3, 2, 1), 4);
    }

    // ---- 15

    /** Whoever is struck is put from work by each stamp. */
    private static final String HARSH = "111111111111";

    private static StampRaids at(String rules, String people) {
        return Due.begun("w0000" + rules + people);
    }

    private static void raidIs(StampRaids x, int office, int n, int ink, int set) {
        Due.is("raid(" + office + ", " + n + ", 0)", x.raid(office, n, 0), ink);
        Due.is("raid(" + office + ", " + n + ", 1)", x.raid(office, n, 1), set);
    }

    private static void raidOfAsManyAsAreAtWork() {
        StampRaids x = at(HARSH, ";p101;p102;p113;p121;p009");
        raidIs(x, 0, 0, 4, 11);
        raidIs(x, 0, 1, 2, 9);
        raidIs(x, 0, 2, 1, 1);
        raidIs(x, 0, 3, 0, 0);
        raidIs(x, 0, 4, 0, 0);
        raidIs(x, 0, 6, 0, 0);
    }

    private static void raidOfNobody() {
        StampRaids x = at("000111222333", ";p001;p002");
        raidIs(x, 0, 0, 0, 0);
        raidIs(x, 0, 6, 0, 0);
        raidIs(x, 1, 0, NONE, NONE);
    }

    private static void raidOfThoseNotAtWork() {
        StampRaids x = at("000000222222", ";p011;p030;p109");
        raidIs(x, 1, 0, 0, 0);
        raidIs(x, 1, 6, 0, 0);
    }

    private static void raidByOneStamp() {
        // By each of the three stamps in turn, 0 becomes 3, and 2 becomes 1.
        String[] rules = {"300111122333", "030111212333", "003111221333"};
        for (String one : rules) {
            StampRaids x = at(one, ";p103;p124;p000");
            raidIs(x, 0, 0, 7, 3);
            raidIs(x, 0, 1, 3, 1);
        }
    }

    private static void raidByTwoStamps() {
        // 0 becomes 2, 2 becomes 3; then 0 becomes 1 at once by the last stamp.
        StampRaids x = at("020111223333", ";p103;p124;p000");
        raidIs(x, 0, 0, 10, 3);
        raidIs(x, 0, 1, 4, 2);
        raidIs(x, 1, 0, 0, 4);
        x.decree(0, 2, 1);
        raidIs(x, 0, 0, 7, 3);
        raidIs(x, 0, 1, 3, 1);
    }

    private static void raidOfOneWhoStaysAtWork() {
        // 0 and 2 become each other alone.
        StampRaids x = at("022111000333", ";p100;p009");
        raidIs(x, 0, 0, NONE, NONE);
        raidIs(x, 0, 1, 0, 0);
        StampRaids y = at("000111233333", ";p100;p123;p125;p120");
        raidIs(y, 0, 0, NONE, NONE);
        raidIs(y, 0, 1, 8, 14);
        raidIs(y, 0, 2, 3, 10);
        raidIs(y, 0, 3, 0, 8);
        raidIs(y, 0, 4, 0, 0);
    }

    private static void raidBeyondAllInk() {
        StampRaids x = at("222111111111", ";g109;g109;g109;g109;g109;g109");
        raidIs(x, 0, 0, 240, 63);
        raidIs(x, 0, 5, 40, 1);
    }

    private static void raidWithoutInk() {
        StampRaids x = at(HARSH, ";p104;p000");
        Due.is("strike(0, 0)", x.strike(0, 0), -3);
        raidIs(x, 0, 0, 4, 1);
    }

    private static void raidForNothing() {
        StampRaids x = at(HARSH, ";p100;p100;p000");
        raidIs(x, 0, 0, 0, 3);
        raidIs(x, 0, 1, 0, 1);
        raidIs(x, 0, 2, 0, 0);
    }

    private static void raidLeastOfAsCheap() {
        StampRaids x = at(HARSH, ";p104;p104;p104;p013");
        raidIs(x, 0, 2, 4, 1);
        raidIs(x, 0, 1, 8, 3);
        // 0 and 3 are as cheap as 1 and 2: 1 and 2 are the less number.
        StampRaids y = at(HARSH, ";p103;p103;p103;p103;p013");
        raidIs(y, 0, 2, 6, 3);
        StampRaids z = at(HARSH, ";p104;p101;p101;p100;p104;p013");
        raidIs(z, 0, 3, 1, 10);
        raidIs(z, 0, 2, 2, 14);
    }

    private static void raidCheapestAheadOfLeast() {
        StampRaids x = at(HARSH, ";p105;p104;p103;p013");
        raidIs(x, 0, 2, 3, 4);
        raidIs(x, 0, 1, 7, 6);
        // More people for less ink cannot be: fewer are struck, though one could strike all.
        StampRaids y = at(HARSH, ";g109;p101;p101;p013");
        raidIs(y, 0, 1, 2, 6);
    }

    private static void raidIsOnTheOther() {
        StampRaids x = at(HARSH, ";p001;p102");
        raidIs(x, 0, 0, 2, 2);
        raidIs(x, 1, 0, 1, 1);
    }

    private static void raidOfAllSix() {
        StampRaids x = at(HARSH, ";p101;p101;p101;p101;p101;p101");
        for (int n = 0; n <= 6; n++) {
            raidIs(x, 0, n, 6 - n, (1 << 6 - n) - 1);
        }
    }

    private static void raidNumbersAtTheirEnds() {
        StampRaids x = at(HARSH, ";p001;p102");
        int[][] calls = {{-1, 0, 0}, {2, 0, 0}, {MIN, 0, 0}, {MAX, 0, 0}, {0, -1, 0}, {0, 7, 0}, {0, MIN, 0},
            {0, MAX, 0}, {0, 0, -1}, {0, 0, 2}, {0, 0, MIN}, {0, 0, MAX}};
        for (int[] one : calls) {
            Due.is("raid(" + one[0] + ", " + one[1] + ", " + one[2] + ")", x.raid(one[0], one[1], one[2]), -2);
        }
        Due.is("raid(1, 6, 1)", x.raid(1, 6, 1), 0);
    }

    // ---- 16

    private static void peaceIs(StampRaids x, int twos, int takes) {
        Due.is("peace(0)", x.peace(0), twos);
        Due.is("peace(1)", x.peace(1), takes);
    }

    private static void peaceOfNobody() {
        peaceIs(at(HARSH, ";p009;p009;p009"), 0, 0);
        peaceIs(at(HARSH, ";p109;p109;p109"), 0, 0);
    }

    private static void peaceOfThoseNotAtWork() {
        peaceIs(at(HARSH, ";p009;p119;p139"), 0, 0);
        peaceIs(at(HARSH, ";p019;p039;p109"), 0, 0);
        peaceIs(at(HARSH, ";g019;p001;p102;g139"), 1, 3);
    }

    private static void peaceOfOneAndFive() {
        peaceIs(at(HARSH, ";p003;p101;p104;p102;p100;p103"), 1, 7);
        peaceIs(at(HARSH, ";p101;p004;p002;p000;p003;p001"), 1, 5);
    }

    private static void peaceOfThreeAndThree() {
        peaceIs(at(HARSH, ";g009;g109;g029;g129;g009;g109"), 3, 120);
        peaceIs(at(HARSH, ";p001;p102;p003;p104;p005;c105"), 3, 21);
    }

    private static void peaceOfThoseThatTakeNothing() {
        peaceIs(at(HARSH, ";p000;p100"), 1, 0);
        peaceIs(at(HARSH, ";p000;p100;p000;p100"), 2, 0);
    }

    private static void peaceAsManyAheadOfMost() {
        // Two twos are more than the dearest one.
        peaceIs(at(HARSH, ";g009;p000;g109;p100;p101"), 2, 41);
        peaceIs(at(HARSH, ";p001;p002;p104;p103;p105;p101"), 2, 12);
    }

    private static void peaceNumbersAtTheirEnds() {
        StampRaids x = at(HARSH, ";p001;p102");
        int[] whats = {MIN, -1, 2, MAX};
        for (int what : whats) {
            Due.is("peace(" + what + ")", x.peace(what), -2);
        }
        peaceIs(x, 1, 3);
    }
}
