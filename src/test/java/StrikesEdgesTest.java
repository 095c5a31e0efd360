/** The edges that promises 8 to 11 name: each has a method of its own. */
public final class StrikesEdgesTest {
    private static final int MIN = Integer.MIN_VALUE, MAX = Integer.MAX_VALUE;
    private static final int NONE = -9;
    /** Each mark becomes the next one by stamp 0, stays by 1, becomes 3 by 2. */
    private static final String RULES = "103213323033";

    public static void main(String[] args) {
        inkJustEnough();
        inkOneTooLittle();
        dearestStrike();
        strikeThatTakesNothing();
        strikeIsByTheOtherOffice();
        strikeThatLeavesTheMark();
        strikeOfNoPerson();
        strikeWithNoStamp();
        strikeOutsideAheadOfState();
        lastInkWashes();
        washWithoutInk();
        washOfMarkNone();
        washIsOfItsOwnOffice();
        washIsNoStrike();
        washOfNoPerson();
        fetchesAtItsEnds();
        fetchesUpToTheMost();
        fetchesOfNoOffice();
        nightOfNoPairs();
        nightOfNoPairsPastTheRow();
        nightOfTwentyPairs();
        nightAtTheEndOfARow();
        nightWhats();
        nightOfNoSheetOrLane();
        nightOfNothing();
        nightOfARowOfNoCells();
        nightActsAtTheirEnds();
        nightPeopleAtTheirEnds();
        nightPairByPair();
        nightPairsAheadOfActs();
        nightMarkOfNobody();
        nightInkJustEnough();
        nightFirstWrongAtTheFirstAndLast();
        nightFirstWrongIsThePairsNumber();
        nightFirstOfTwoWrongs();
        nightOfAWashingWithoutInk();
        nightFirstWrongOfNobodysMark();
        nightStrikesThatChangeAMark();
        nightAsManyAreNotMore();
        nightLeavesAllAsItIs();
        nightIsFromHowAllIsNow();
        Due.end();
    }

    private static StampRaids begun(String inks, String people) {
        return Due.begun("w" + inks + RULES + people);
    }

    // ---- 8

    private static void inkJustEnough() {
        StampRaids x = begun("0009", ";p009;p100");
        Due.is("strike(0, 0)", x.strike(0, 0), 1);
        Due.is("ink left", x.ofOffice(1, 0), 0);
        Due.is("many(2)", x.many(2), 1);
    }

    private static void inkOneTooLittle() {
        StampRaids x = begun("9908", ";p009;p100");
        Due.is("strike(0, 0)", x.strike(0, 0), -3);
        Due.is("ink stays", x.ofOffice(1, 0), 8);
        Due.is("ink of its own stays", x.ofOffice(0, 0), 99);
        Due.is("mark stays", x.ofPerson(0, 2), 0);
        Due.is("many(2)", x.many(2), 0);
        Due.is("fetches(1, 1)", x.fetches(1, 1), 9);
        Due.is("strike(0, 0)", x.strike(0, 0), 1);
    }

    private static void dearestStrike() {
        StampRaids x = begun("1920", ";g009;g109");
        Due.is("strike(1, 0) by 19", x.strike(1, 0), -3);
        Due.is("strike(0, 0) by 20", x.strike(0, 0), 1);
        Due.is("ink left", x.ofOffice(1, 0), 0);
    }

    private static void strikeThatTakesNothing() {
        StampRaids x = begun("0000", ";p000;c100");
        Due.is("strike(0, 2)", x.strike(0, 2), 3);
        Due.is("strike(1, 2), that takes 1", x.strike(1, 2), -3);
        Due.is("ink", x.ofOffice(1, 0), 0);
        Due.is("many(2)", x.many(2), 1);
    }

    private static void strikeIsByTheOtherOffice() {
        StampRaids x = begun("1020", ";p003;p104");
        x.strike(0, 0);
        Due.is("ink of 0", x.ofOffice(0, 0), 10);
        Due.is("ink of 1", x.ofOffice(1, 0), 17);
        x.strike(1, 0);
        Due.is("ink of 0", x.ofOffice(0, 0), 6);
        Due.is("ink of 1", x.ofOffice(1, 0), 17);
    }

    private static void strikeThatLeavesTheMark() {
        StampRaids x = begun("1020", ";p023;p104");
        Due.is("strike(0, 1)", x.strike(0, 1), 2);
        Due.is("its ink is taken", x.ofOffice(1, 0), 17);
        Due.is("it is a strike", x.many(2), 1);
    }

    private static void strikeOfNoPerson() {
        StampRaids x = begun("9999", ";p000;p100;p000");
        int[] whom = {MIN, -1, 3, 6, MAX};
        for (int p : whom) {
            Due.is("strike(" + p + ", 0)", x.strike(p, 0), -1);
            Due.is("strike(" + p + ", 3)", x.strike(p, 3), -1);
        }
        Due.is("strike(2, 0)", x.strike(2, 0), 1);
        Due.is("many(2)", x.many(2), 1);
    }

    private static void strikeWithNoStamp() {
        StampRaids x = begun("9999", ";p000;p110");
        int[] stamps = {MIN, -1, 3, MAX};
        for (int stamp : stamps) {
            Due.is("strike(1, " + stamp + ")", x.strike(1, stamp), -2);
        }
        Due.is("strike(1, 0)", x.strike(1, 0), 2);
        Due.is("strike(1, 2)", x.strike(1, 2), 3);
        Due.is("many(2)", x.many(2), 2);
    }

    private static void strikeOutsideAheadOfState() {
        StampRaids x = begun("0000", ";p009;p109");
        Due.is("strike(0, 3)", x.strike(0, 3), -2);
        Due.is("strike(0, -1)", x.strike(0, -1), -2);
        Due.is("strike(0, 2)", x.strike(0, 2), -3);
    }

    // ---- 9

    private static void lastInkWashes() {
        StampRaids x = begun("0100", ";g039;p100");
        Due.is("wash(0)", x.wash(0), 3);
        Due.is("ink left", x.ofOffice(0, 0), 0);
        Due.is("mark", x.ofPerson(0, 2), 0);
    }

    private static void washWithoutInk() {
        StampRaids x = begun("0099", ";p030;p100");
        Due.is("wash(0)", x.wash(0), -3);
        Due.is("mark stays", x.ofPerson(0, 2), 3);
        Due.is("ink stays", x.ofOffice(0, 0), 0);
        Due.is("ink of the other stays", x.ofOffice(1, 0), 99);
    }

    private static void washOfMarkNone() {
        StampRaids x = begun("0200", ";p000;p100");
        Due.is("wash(0)", x.wash(0), 0);
        Due.is("its ink is taken", x.ofOffice(0, 0), 1);
        Due.is("without ink", x.wash(1), -3);
    }

    private static void washIsOfItsOwnOffice() {
        StampRaids x = begun("0507", ";p010;p120");
        Due.is("wash(1)", x.wash(1), 2);
        Due.is("ink of 0", x.ofOffice(0, 0), 5);
        Due.is("ink of 1", x.ofOffice(1, 0), 6);
    }

    private static void washIsNoStrike() {
        StampRaids x = begun("0507", ";p010;p120");
        x.wash(0);
        Due.is("many(2)", x.many(2), 0);
    }

    private static void washOfNoPerson() {
        StampRaids x = begun("0000", ";p010;p120");
        int[] whom = {MIN, -1, 2, MAX};
        for (int p : whom) {
            Due.is("wash(" + p + ")", x.wash(p), -1);
        }
        Due.is("wash(1)", x.wash(1), -3);
    }

    // ---- 10

    private static void fetchesAtItsEnds() {
        StampRaids x = begun("0000", ";p000;p100");
        int[] ns = {MIN, -1, 0, 100, MAX};
        for (int n : ns) {
            Due.is("fetches(0, " + n + ")", x.fetches(0, n), -2);
        }
        Due.is("ink", x.ofOffice(0, 0), 0);
        Due.is("fetches(0, 1)", x.fetches(0, 1), 1);
        Due.is("fetches(1, 99)", x.fetches(1, 99), 99);
    }

    private static void fetchesUpToTheMost() {
        StampRaids x = begun("9798", ";p000;p100");
        Due.is("just up to 99", x.fetches(0, 2), 99);
        Due.is("one beyond 99", x.fetches(1, 2), 99);
        Due.is("of one that is full", x.fetches(0, 99), 99);
        Due.is("ink of 0", x.ofOffice(0, 0), 99);
        Due.is("ink of 1", x.ofOffice(1, 0), 99);
        StampRaids y = begun("0198", ";p000;p100");
        Due.is("1 and 97", y.fetches(0, 97), 98);
        Due.is("98 and 1", y.fetches(1, 1), 99);
    }

    private static void fetchesOfNoOffice() {
        StampRaids x = begun("0000", ";p000;p100");
        int[] offices = {MIN, -1, 2, MAX};
        for (int office : offices) {
            Due.is("fetches(" + office + ", 1)", x.fetches(office, 1), -2);
        }
        Due.is("ink of 0", x.ofOffice(0, 0), 0);
        Due.is("ink of 1", x.ofOffice(1, 0), 0);
    }

    // ---- 11

    private static final int[] WHATS = {0, 1, 2, 3, 4, 10, 11, 12, 13, 14, 15};

    /** The night that pairs tell, in the order of WHATS. */
    private static void nightIs(StampRaids x, int[] pairs, int... due) {
        Due.row(x, 0, 2, pairs);
        for (int j = 0; j < due.length; j++) {
            Due.is(x, "night of " + pairs.length / 2 + " pairs, " + WHATS[j],
                x.night(0, 2, 0, pairs.length / 2, WHATS[j]), due[j], 0);
        }
    }

    private static int[] pairs(int... cells) {
        return cells;
    }

    private static void nightOfNoPairs() {
        // More of office 0 are at work, but behind none of its pairs.
        StampRaids x = begun("0509", ";p000;p110;p030");
        nightIs(x, pairs(), 14, NONE, 1, 0, 0, 0, 1, 3, NONE, NONE, NONE);
    }

    private static void nightOfNoPairsPastTheRow() {
        StampRaids x = begun("0509", ";p000;p110");
        Due.row(x, 0, 2, 0, 0);
        Due.is(x, "night(0, 2, -1, 0, 0)", x.night(0, 2, -1, 0, 0), -13, 3);
        Due.is(x, "night(0, 2, 0, 0, 0)", x.night(0, 2, 0, 0, 0), 14, 0);
        Due.is(x, "night(0, 2, 2, 0, 0)", x.night(0, 2, 2, 0, 0), 14, 0);
        Due.is(x, "night(0, 2, 3, 0, 0)", x.night(0, 2, 3, 0, 0), -13, 3);
        Due.is(x, "night(0, 2, MAX, 0, 0)", x.night(0, 2, MAX, 0, 0), -13, 3);
        Due.is(x, "night(0, 2, MIN, 0, 0)", x.night(0, 2, MIN, 0, 0), -13, 3);
    }

    private static int[] twentyTimes(int p, int act) {
        int[] cells = new int[40];
        for (int j = 0; j < 40; j += 2) {
            cells[j] = p;
            cells[j + 1] = act;
        }
        return cells;
    }

    private static void nightOfTwentyPairs() {
        StampRaids x = begun("0040", ";p002;p110");
        Due.row(x, 0, 2, twentyTimes(0, 0));
        Due.is(x, "twenty", x.night(0, 2, 0, 20, 0), 0, 0);
        Due.is(x, "twenty's changes", x.night(0, 2, 0, 20, 3), 20, 0);
        Due.is(x, "twenty's leads", x.night(0, 2, 0, 20, 4), 10, 0);
        x.sheet(0, 2, 60);
        Due.is(x, "twenty-one", x.night(0, 2, 0, 21, 0), -2, 0);
        Due.is(x, "none", x.night(0, 2, 0, 0, 0), 40, 0);
        Due.is(x, "below none", x.night(0, 2, 0, -1, 0), -2, 0);
        // Two of each would wrap to few.
        int[] ns = {MIN, MIN + 1, MAX, 1 << 30, 1 << 31, (1 << 30) + 1};
        for (int n : ns) {
            Due.is(x, "so many pairs: " + n, x.night(0, 2, 0, n, 0), -2, 0);
        }
    }

    private static void nightAtTheEndOfARow() {
        StampRaids x = begun("9999", ";p001;p110");
        x.sheet(0, 2, 60);
        Due.is(x, "night(0, 2, 20, 20, 0)", x.night(0, 2, 20, 20, 0), 178, 0);
        Due.is(x, "night(0, 2, 21, 20, 0)", x.night(0, 2, 21, 20, 0), -13, 3);
        Due.is(x, "night(0, 2, 58, 1, 0)", x.night(0, 2, 58, 1, 0), 197, 0);
        Due.is(x, "night(0, 2, 59, 1, 0)", x.night(0, 2, 59, 1, 0), -13, 3);
        Due.is(x, "night(0, 2, 60, 1, 0)", x.night(0, 2, 60, 1, 0), -13, 3);
        Due.is(x, "night(0, 2, MAX, 1, 0)", x.night(0, 2, MAX, 1, 0), -13, 3);
        Due.is(x, "night(0, 2, MAX - 1, 1, 0)", x.night(0, 2, MAX - 1, 1, 0), -13, 3);
        Due.is(x, "night(0, 2, MIN, 20, 0)", x.night(0, 2, MIN, 20, 0), -13, 3);
        Due.is(x, "night(0, 2, -1, 1, 0)", x.night(0, 2, -1, 1, 0), -13, 3);
    }

    private static void nightWhats() {
        StampRaids x = begun("0509", ";p000;p110;p120;p130;p000;p010");
        x.sheet(0, 2, 0);
        int[] outside = {MIN, -1, 5, 6, 7, 8, 9, 16, 17, MAX};
        for (int what : outside) {
            Due.is(x, "night(0, 2, 0, 0, " + what + ")", x.night(0, 2, 0, 0, what), -2, 0);
        }
        int[] due = {14, NONE, 21, 0, 0, 0, 1, 2, 3, 0, 1};
        for (int j = 0; j < due.length; j++) {
            Due.is(x, "night(0, 2, 0, 0, " + WHATS[j] + ")", x.night(0, 2, 0, 0, WHATS[j]), due[j], 0);
        }
    }

    private static void nightOfNoSheetOrLane() {
        StampRaids x = begun("0509", ";p000;p110");
        int[] sheets = {MIN, -1, 4, MAX};
        for (int sheet : sheets) {
            Due.is(x, "night(" + sheet + ", 3, 0, 21, 5)", x.night(sheet, 3, 0, 21, 5), -1, 0);
        }
        int[] lanes = {MIN, -1, 3, MAX};
        for (int lane : lanes) {
            Due.is(x, "night(3, " + lane + ", 0, 0, 0)", x.night(3, lane, 0, 0, 0), -2, 0);
        }
        Due.is(x, "night(3, 0, 0, 0, 0)", x.night(3, 0, 0, 0, 0), 14, 0);
    }

    private static void nightOfNothing() {
        StampRaids x = begun("0509", ";p000;p110");
        for (int lane = 0; lane < 3; lane++) {
            Due.is(x, "night(2, " + lane + ", -1, 0, 0)", x.night(2, lane, -1, 0, 0), -11, 1);
        }
    }

    private static void nightOfARowOfNoCells() {
        StampRaids x = begun("0509", ";p000;p110");
        x.sheet(2, 1, 0);
        Due.is(x, "night(2, 1, 0, 0, 0)", x.night(2, 1, 0, 0, 0), 14, 0);
        Due.is(x, "night(2, 1, 0, 1, 0)", x.night(2, 1, 0, 1, 0), -13, 3);
        Due.is(x, "night(2, 1, 1, 0, 0)", x.night(2, 1, 1, 0, 0), -13, 3);
        Due.is(x, "night(2, 0, 1, 0, 0)", x.night(2, 0, 1, 0, 0), -12, 2);
        Due.is(x, "night(2, 2, 0, 0, 0)", x.night(2, 2, 0, 0, 0), -12, 2);
    }

    private static void onePairIs(int p, int act, int due) {
        StampRaids x = begun("0900", ";p030;p110;p000");
        Due.row(x, 0, 2, p, act);
        Due.is(x, "night of " + p + " " + act, x.night(0, 2, 0, 1, 0), due, 0);
        Due.is(x, "first wrong of " + p + " " + act, x.night(0, 2, 0, 1, 1), due < 0 ? due : NONE, 0);
    }

    private static void nightActsAtTheirEnds() {
        onePairIs(0, -1, -2);
        onePairIs(0, 0, 9);
        onePairIs(0, 2, 9);
        onePairIs(0, 3, 8);
        onePairIs(0, 4, -2);
        onePairIs(0, MIN, -2);
        onePairIs(0, MAX, -2);
    }

    private static void nightPeopleAtTheirEnds() {
        onePairIs(-1, 0, -1);
        onePairIs(0, 0, 9);
        onePairIs(2, 0, 9);
        onePairIs(3, 0, -1);
        onePairIs(6, 0, -1);
        onePairIs(MIN, 0, -1);
        onePairIs(MAX, 0, -1);
    }

    private static void nightPairByPair() {
        StampRaids x = begun("0900", ";p030;p110;p000");
        nightIs(x, pairs(3, 4), -2, -2, -2, -2, -2, -2);
        nightIs(x, pairs(3, 0, 0, 4), -1, -1, -1, -1, -1, -1);
        nightIs(x, pairs(0, 4, 3, 0), -2, -2, -2, -2, -2, -2);
        nightIs(x, pairs(0, 0, 3, 4), -2, -2, -2, -2, -2, -2);
        nightIs(x, pairs(0, 0, 0, 0, -1, 3), -1, -1, -1, -1, -1, -1);
    }

    private static void nightPairsAheadOfActs() {
        // The first act is wrong: there is no ink for it.
        StampRaids x = begun("0000", ";p030;p119;p000");
        nightIs(x, pairs(1, 0, 0, 4), -2, -2);
        nightIs(x, pairs(1, 0, 3, 0), -1, -1);
        nightIs(x, pairs(1, 0, 2, 0), -100, 0);
    }

    private static void nightMarkOfNobody() {
        StampRaids two = begun("0900", ";p030;p110");
        nightIs(two, pairs(), 9, NONE, 0, 0, 0, 3, 1, NONE, NONE, NONE, NONE);
        StampRaids six = begun("0900", ";p030;p110;p000;p100;p110;p120");
        nightIs(six, pairs(), 9, NONE, 44, 0, 0, 3, 1, 0, 0, 1, 2);
    }

    private static void nightInkJustEnough() {
        StampRaids x = begun("0007", ";p003;p104;c003");
        nightIs(x, pairs(0, 0, 2, 0), 0, NONE, 2, 2, 0, 1, 0, 1, NONE, NONE, NONE);
        StampRaids less = begun("0006", ";p003;p104;c003");
        nightIs(less, pairs(0, 0, 2, 0), -101, 1, -101, -101, -101, -101, -101, -101, -101, -101, -101);
        StampRaids none = begun("0000", ";p000;p104;c003");
        nightIs(none, pairs(0, 0, 0, 0), 0, NONE, 7, 2, 1, 2, 0, 0, NONE, NONE, NONE);
    }

    private static void nightFirstWrongAtTheFirstAndLast() {
        StampRaids x = begun("0000", ";p001;p100");
        nightIs(x, pairs(0, 0, 1, 0), -100, 0, -100, -100, -100, -100, -100, -100, -100, -100, -100);
        StampRaids last = begun("0019", ";p001;p100");
        nightIs(last, twentyTimes(0, 1), -119, 19, -119, -119, -119, -119, -119, -119, -119, -119, -119);
        StampRaids enough = begun("0020", ";p001;p100");
        nightIs(enough, twentyTimes(0, 1), 0, NONE, 3, 0, 0, 0, 0, NONE, NONE, NONE, NONE);
    }

    private static void nightFirstWrongIsThePairsNumber() {
        StampRaids x = begun("0002", ";p001;p100");
        Due.row(x, 0, 1, 9, 9, 9, 0, 0, 0, 0, 0, 0);
        Due.is(x, "night(0, 1, 3, 3, 1)", x.night(0, 1, 3, 3, 1), 2, 0);
        Due.is(x, "night(0, 1, 5, 2, 1)", x.night(0, 1, 5, 2, 1), NONE, 0);
    }

    private static void nightFirstOfTwoWrongs() {
        StampRaids x = begun("0102", ";p003;p101;p009");
        nightIs(x, pairs(1, 0, 0, 0, 2, 0), -101, 1);
        nightIs(x, pairs(2, 0, 1, 0, 0, 0), -100, 0);
    }

    private static void nightOfAWashingWithoutInk() {
        StampRaids x = begun("0109", ";p030;p110");
        nightIs(x, pairs(0, 3, 0, 3), -101, 1, -101, -101, -101, -101);
        nightIs(x, pairs(0, 3), 9, NONE, 1, 0, 1, 0, 1);
        nightIs(x, pairs(0, 3, 1, 3), 8, NONE, 3, 0, 1, 0, 0);
    }

    private static void nightFirstWrongOfNobodysMark() {
        StampRaids x = begun("0000", ";p009;p110");
        nightIs(x, pairs(0, 0), -100, 0, -100, -100, -100, -100, -100, -100, -100, -100, -100);
    }

    private static void nightStrikesThatChangeAMark() {
        // By stamp 1 a mark stays; a washing is no strike; round and back again are four changes.
        StampRaids x = begun("9999", ";p001;p111");
        nightIs(x, pairs(0, 1), 197, NONE, 1, 0);
        nightIs(x, pairs(1, 3), 197, NONE, 3, 0);
        nightIs(x, pairs(0, 0, 0, 0, 0, 0, 0, 0), 194, NONE, 1, 4);
        x.decree(1, 0, 0);
        nightIs(x, pairs(0, 0, 0, 0), 196, NONE, 1, 2);
    }

    private static void nightAsManyAreNotMore() {
        StampRaids x = begun("9999", ";p000;p100;p010;p110");
        nightIs(x, pairs(0, 1), 198, NONE, 3, 0, 0);
        nightIs(x, pairs(0, 1, 2, 3), 197, NONE, 7, 0, 1);
        nightIs(x, pairs(2, 3, 3, 3), 196, NONE, 15, 0, 1);
        nightIs(x, pairs(3, 3, 2, 3), 196, NONE, 15, 0, 0);
        nightIs(x, pairs(1, 2, 0, 1, 0, 2), 198, NONE, 0, 2, 2);
    }

    private static void nightLeavesAllAsItIs() {
        StampRaids x = begun("0929", ";p003;p114");
        nightIs(x, pairs(0, 0, 1, 0, 0, 3), 30, NONE, 3, 2, 0);
        Due.is("ink of 0", x.ofOffice(0, 0), 9);
        Due.is("ink of 1", x.ofOffice(1, 0), 29);
        Due.is("mark of 0", x.ofPerson(0, 2), 0);
        Due.is("mark of 1", x.ofPerson(1, 2), 1);
        Due.is("many(2)", x.many(2), 0);
        nightIs(x, pairs(1, 0, 1, 0, 1, 0), -102, 2, -102);
        Due.is("ink of 0 behind a wrong one", x.ofOffice(0, 0), 9);
        Due.is("mark of 1 behind a wrong one", x.ofPerson(1, 2), 1);
        nightIs(x, pairs(0, 0, 1, 0, 0, 3), 30, NONE, 3, 2, 0);
    }

    private static void nightIsFromHowAllIsNow() {
        StampRaids x = begun("0929", ";p003;p114");
        x.strike(0, 0);
        x.fetches(0, 1);
        x.starch(0, 9);
        x.decree(1, 0, 3);
        nightIs(x, pairs(0, 0), 27, NONE, 0, 1, 0, 3, 1);
    }
}
