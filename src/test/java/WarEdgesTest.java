/** The edges that promises 1 to 7, and the terms that they use, name: each has a method of its own. */
public final class WarEdgesTest {
    private static final int MIN = Integer.MIN_VALUE, MAX = Integer.MAX_VALUE;
    private static final long LOST = Long.MIN_VALUE;
    private static final String SIX = "w3025120013230333;p005;c103;g012;p120;c027;g119";
    private static final String TWO = SIX.substring(0, 27);

    public static void main(String[] args) {
        newObjectHasNoPeople();
        newObjectHasNoRules();
        newSheetsHaveNothing();
        newTraceAndFaultAreNone();
        newObjectBesideAnother();
        textOfNoCodes();
        textOfNoPerson();
        textOfOnePerson();
        textOfTwoPeople();
        textOfSixPeople();
        textOfSevenPeople();
        textWithinAPerson();
        letterOfTheText();
        digitsOfInk();
        digitsOfRules();
        aheadOfAPerson();
        kindsOfPeople();
        digitOfOffice();
        digitOfMark();
        digitOfNeck();
        firstOfTwoFaults();
        faultAheadOfTheEnd();
        codesWiderThanBytes();
        placesAreOfTheText();
        textAtTheEndOfARow();
        sumOfPlaceAndLengthWraps();
        noCellsAreTakenWhereTheyAre();
        nothingIsNoCast();
        rowOfNoCellsIsSomething();
        lengthBelowNoneAheadOfPlace();
        inkIsTwoDigits();
        fewerPeopleThanAhead();
        morePeopleThanAhead();
        noStrikesNoReadings();
        sheetsAndTraceStay();
        textNotTakenLeavesAll();
        peopleAtTheirEnds();
        plainTakesAtItsEnds();
        clerkTakesAtItsEnds();
        generalTakesAtItsEnds();
        marksAtWork();
        rulesAtTheirEnds();
        decreeAtItsEnds();
        decreeOfWhatItIs();
        starchAtItsEnds();
        officesAtTheirEnds();
        setsOfNobodyAndOfAll();
        Due.end();
    }

    // ---- 1

    private static void newObjectHasNoPeople() {
        StampRaids x = new StampRaids();
        Due.is("many(0)", x.many(0), 0);
        Due.is("many(1)", x.many(1), 0);
        Due.is("many(2)", x.many(2), 0);
        Due.is("many(3)", x.many(3), 0);
        Due.is("ofPerson(0, 0)", x.ofPerson(0, 0), -1);
        Due.is("starch(0, 0)", x.starch(0, 0), -1);
        Due.is("strike(0, 0)", x.strike(0, 0), -1);
        Due.is("wash(0)", x.wash(0), -1);
        Due.is("reading(0, 0)", x.reading(0, 0), -1);
        Due.is("necks(0)", x.necks(0), -1);
        Due.is("kinds(0)", x.kinds(0), -1);
        Due.is("odds(0, 0, 0)", x.odds(0, 0, 0), LOST);
        Due.is("tell(0)", x.tell(0), -1);
        Due.is("salute(0)", x.salute(0), -1);
        Due.is("as(0, 0)", x.as(0, 0), -1);
        Due.is("back(0)", x.back(0), 0);
        Due.is("back(1)", x.back(1), -2);
    }

    private static void newObjectHasNoRules() {
        StampRaids x = new StampRaids();
        x.sheet(0, 0, 2);
        Due.is("rule(0, 0)", x.rule(0, 0), -3);
        Due.is("decree(0, 0, 0)", x.decree(0, 0, 0), -3);
        Due.is("ofOffice(0, 0)", x.ofOffice(0, 0), -3);
        Due.is("fetches(0, 1)", x.fetches(0, 1), -3);
        Due.is("night(0, 0, 0, 0, 0)", x.night(0, 0, 0, 0, 0), -3);
        Due.is("undoing(0, 0, -1)", x.undoing(0, 0, -1), -3);
        Due.is("ways(0, 0, 0)", x.ways(0, 0, 0), -3);
        Due.is("worn(0, 0, 0)", x.worn(0, 0, 0), -3);
        Due.is("raid(0, 6, 0)", x.raid(0, 6, 0), -3);
        Due.is("peace(0)", x.peace(0), -3);
        Due.is("fits(0, 0, 0, 0)", x.fits(0, 0, 0, 0), -3);
    }

    private static void newSheetsHaveNothing() {
        StampRaids x = new StampRaids();
        for (int k = 0; k < 4; k++) {
            Due.is(x, "put(" + k + ", 0, 0)", x.put(k, 0, 0), -11, 1);
            Due.is(x, "cell(" + k + ", 0, 0)", x.cell(k, 0, 0), LOST, 1);
            Due.is(x, "war(" + k + ", 0, 0, 0)", x.war(k, 0, 0, 0), -11, 1);
            Due.is(x, "copy(" + k + ", 0, " + k + ", 0, 0)", x.copy(k, 0, k, 0, 0), -11, 1);
            Due.is("lose(" + k + ")", x.lose(k), 0);
        }
    }

    private static void newTraceAndFaultAreNone() {
        StampRaids x = new StampRaids();
        Due.is("trace()", x.trace(), 0);
        Due.is("fault()", x.fault(), 0);
    }

    private static void newObjectBesideAnother() {
        StampRaids x = Due.begun(SIX);
        x.tell(0);
        x.reading(0, 5);
        x.cell(3, 0, 1);
        StampRaids y = new StampRaids();
        Due.is("many(0)", y.many(0), 0);
        Due.is("many(3)", y.many(3), 0);
        Due.is("trace()", y.trace(), 0);
        Due.is("fault()", y.fault(), 0);
        Due.is("lose(3)", y.lose(3), 0);
        Due.is("lose(3) of the one ahead", x.lose(3), 1);
        Due.is("trace() of the one ahead", x.trace(), 1);
    }

    // ---- 2: the text

    /** What a text answers that stands alone in a row of a lane. */
    private static int answer(int lane, int... codes) {
        StampRaids x = new StampRaids();
        Due.row(x, 1, lane, codes);
        int answer = x.war(1, lane, 0, codes.length);
        Due.is("fault()", x.fault(), 0);
        Due.is("many(0) of what is answered", x.many(0), Math.max(0, answer));
        return answer;
    }

    private static int answer(String text) {
        return answer(0, text.chars().toArray());
    }

    /** A code of the text of six put in place of another one. */
    private static int with(int place, int code) {
        int[] codes = SIX.chars().toArray();
        codes[place] = code;
        return answer(2, codes);
    }

    private static void goesOnAt(int place, int least, int greatest) {
        Due.is("just too small at " + place, with(place, least - 1), -100 - place);
        Due.is("the least at " + place, with(place, least), 6);
        Due.is("the greatest at " + place, with(place, greatest), 6);
        Due.is("just too large at " + place, with(place, greatest + 1), -100 - place);
    }

    private static void textOfNoCodes() {
        Due.is("no codes", answer(""), -100);
        Due.is("no codes, shorts", answer(1), -100);
    }

    private static void textOfNoPerson() {
        Due.is("w", answer("w"), -101);
        Due.is("inks", answer("w3025"), -105);
        Due.is("inks and rules", answer(SIX.substring(0, 17)), -117);
        Due.is("a person without an end", answer(SIX.substring(0, 18)), -118);
    }

    private static void textOfOnePerson() {
        Due.is("one person", answer(SIX.substring(0, 22)), -122);
        Due.is("one person and ;", answer(SIX.substring(0, 23)), -123);
    }

    private static void textOfTwoPeople() {
        Due.is("one person and all but the last code", answer(SIX.substring(0, 26)), -126);
        Due.is("two people", answer(TWO), 2);
        Due.is("two people and ;", answer(SIX.substring(0, 28)), -128);
    }

    private static void textOfSixPeople() {
        Due.is("all but the last code", answer(SIX.substring(0, 46)), -146);
        Due.is("six people", answer(SIX), 6);
    }

    private static void textOfSevenPeople() {
        Due.is("the ; of a seventh", answer(SIX + ";"), -147);
        Due.is("a seventh begun", answer(SIX + ";p0"), -147);
        Due.is("seven people", answer(SIX + ";p005"), -147);
        Due.is("eight people", answer(SIX + ";p005;p0"), -147);
        Due.is("anything behind the sixth", answer(SIX + "0"), -147);
    }

    private static void textWithinAPerson() {
        for (int n = 28; n < 32; n++) {
            Due.is("so many codes: " + n, answer(SIX.substring(0, n)), -100 - n);
        }
        Due.is("three people", answer(SIX.substring(0, 32)), 3);
    }

    private static void letterOfTheText() {
        goesOnAt(0, 'w', 'w');
        Due.is("a great w", with(0, 'W'), -100);
    }

    private static void digitsOfInk() {
        for (int place = 1; place <= 4; place++) {
            goesOnAt(place, '0', '9');
        }
    }

    private static void digitsOfRules() {
        for (int place = 5; place <= 16; place++) {
            goesOnAt(place, '0', '3');
        }
    }

    private static void aheadOfAPerson() {
        for (int p = 0; p < 6; p++) {
            goesOnAt(17 + 5 * p, ';', ';');
        }
    }

    private static void kindsOfPeople() {
        for (int p = 0; p < 6; p++) {
            goesOnAt(18 + 5 * p, 'p', 'p');
            goesOnAt(18 + 5 * p, 'c', 'c');
            goesOnAt(18 + 5 * p, 'g', 'g');
            Due.is("a great P", with(18 + 5 * p, 'P'), -118 - 5 * p);
        }
    }

    private static void digitOfOffice() {
        for (int p = 0; p < 6; p++) {
            goesOnAt(19 + 5 * p, '0', '1');
        }
    }

    private static void digitOfMark() {
        for (int p = 0; p < 6; p++) {
            goesOnAt(20 + 5 * p, '0', '3');
        }
    }

    private static void digitOfNeck() {
        for (int p = 0; p < 6; p++) {
            goesOnAt(21 + 5 * p, '0', '9');
        }
    }

    private static void firstOfTwoFaults() {
        Due.is("at 4 and 5", answer("w302:420013230333;p005;c103"), -104);
        Due.is("at 0 and behind the sixth", answer("v" + SIX.substring(1) + ";"), -100);
        Due.is("at 26 and 27", answer(SIX.substring(0, 26) + "x,"), -126);
    }

    private static void faultAheadOfTheEnd() {
        Due.is("the last code of one that ends too soon", answer("w30x"), -103);
        Due.is("one that ends too soon, right so far", answer("w302"), -104);
        Due.is("one code, a wrong one", answer("x"), -100);
    }

    private static void codesWiderThanBytes() {
        int[] codes = TWO.chars().toArray();
        codes[0] += 256;
        Due.is("cut to a byte", answer(0, codes), 2);
        Due.is("a short above bytes", answer(1, codes), -100);
        codes[0] += 65536 - 256;
        Due.is("cut to a short", answer(1, codes), 2);
        Due.is("an int above shorts", answer(2, codes), -100);
        Due.is("int's least", with(1, MIN), -101);
        Due.is("int's greatest", with(46, MAX), -146);
        Due.is("below 0", with(5, -1), -105);
    }

    // ---- 2: where the text stands

    private static void placesAreOfTheText() {
        StampRaids x = new StampRaids();
        Due.write(x, 0, 0, "www" + TWO.replace('c', 'x'));
        Due.is("the fault's place", x.war(0, 0, 3, 27), -123);
        Due.is("where it ends too soon", x.war(0, 0, 3, 20), -120);
        Due.is("another beginning", x.war(0, 0, 2, 28), -101);
    }

    private static void textAtTheEndOfARow() {
        StampRaids x = new StampRaids();
        x.sheet(2, 1, 60);
        for (int j = 0; j < 47; j++) {
            x.put(2, 13 + j, SIX.charAt(j));
        }
        Due.is(x, "war(2, 1, 14, 47)", x.war(2, 1, 14, 47), -13, 3);
        Due.is(x, "war(2, 1, 13, 48)", x.war(2, 1, 13, 48), -13, 3);
        Due.is(x, "war(2, 1, 0, 61)", x.war(2, 1, 0, 61), -13, 3);
        Due.is("many(0)", x.many(0), 0);
        Due.is(x, "war(2, 1, 0, 60)", x.war(2, 1, 0, 60), -100, 0);
        Due.is(x, "war(2, 1, 13, 47)", x.war(2, 1, 13, 47), 6, 0);
    }

    private static void sumOfPlaceAndLengthWraps() {
        StampRaids x = new StampRaids();
        Due.write(x, 0, 0, TWO);
        int[][] calls = {{1, MAX}, {MAX, 1}, {MAX, MAX}, {27, MAX}, {MIN, 27}, {MIN, MAX}, {MAX, 0}, {MIN, 0}, {-1, 28},
            {-27, 27}, {-1, 1}};
        for (int[] one : calls) {
            Due.is(x, "war(0, 0, " + one[0] + ", " + one[1] + ")", x.war(0, 0, one[0], one[1]), -13, 3);
        }
        Due.is(x, "war(0, 0, 1, MIN)", x.war(0, 0, 1, MIN), -14, 4);
        Due.is(x, "war(0, 0, MIN, MIN)", x.war(0, 0, MIN, MIN), -14, 4);
    }

    private static void noCellsAreTakenWhereTheyAre() {
        StampRaids x = new StampRaids();
        Due.write(x, 0, 0, TWO);
        Due.is(x, "war(0, 0, -1, 0)", x.war(0, 0, -1, 0), -13, 3);
        Due.is(x, "war(0, 0, 0, 0)", x.war(0, 0, 0, 0), -100, 0);
        Due.is(x, "war(0, 0, 27, 0)", x.war(0, 0, 27, 0), -100, 0);
        Due.is(x, "war(0, 0, 28, 0)", x.war(0, 0, 28, 0), -13, 3);
    }

    private static void nothingIsNoCast() {
        StampRaids x = new StampRaids();
        for (int lane = 0; lane < 3; lane++) {
            Due.is(x, "war(0, " + lane + ", 0, 27)", x.war(0, lane, 0, 27), -11, 1);
        }
        x.sheet(0, 1, 27);
        x.lose(0);
        Due.is(x, "war(0, 0, 0, 27), its row lost", x.war(0, 0, 0, 27), -11, 1);
        Due.is(x, "war(0, 0, -1, -1)", x.war(0, 0, -1, -1), -11, 1);
    }

    private static void rowOfNoCellsIsSomething() {
        StampRaids x = new StampRaids();
        x.sheet(0, 1, 0);
        Due.is(x, "war(0, 1, 0, 0)", x.war(0, 1, 0, 0), -100, 0);
        Due.is(x, "war(0, 0, 0, 0)", x.war(0, 0, 0, 0), -12, 2);
        Due.is(x, "war(0, 2, 0, -1)", x.war(0, 2, 0, -1), -12, 2);
        Due.is(x, "war(0, 1, 0, 1)", x.war(0, 1, 0, 1), -13, 3);
        Due.is(x, "war(0, 1, 1, 0)", x.war(0, 1, 1, 0), -13, 3);
        Due.is(x, "war(0, 1, -1, 0)", x.war(0, 1, -1, 0), -13, 3);
    }

    private static void lengthBelowNoneAheadOfPlace() {
        StampRaids x = new StampRaids();
        Due.write(x, 0, 0, TWO);
        Due.is(x, "war(0, 0, -1, -1)", x.war(0, 0, -1, -1), -14, 4);
        Due.is(x, "war(0, 0, 0, -1)", x.war(0, 0, 0, -1), -14, 4);
        Due.is(x, "war(0, 0, 28, -1)", x.war(0, 0, 28, -1), -14, 4);
        Due.is(x, "war(0, 0, 27, -27)", x.war(0, 0, 27, -27), -14, 4);
    }

    // ---- 2: what it makes

    private static void inkIsTwoDigits() {
        String[] texts = {"0000", "0109", "1090", "9999", "9900", "0099"};
        int[][] due = {{0, 0}, {1, 9}, {10, 90}, {99, 99}, {99, 0}, {0, 99}};
        for (int j = 0; j < texts.length; j++) {
            StampRaids x = Due.begun("w" + texts[j] + TWO.substring(5));
            Due.is("ink of 0 of " + texts[j], x.ofOffice(0, 0), due[j][0]);
            Due.is("ink of 1 of " + texts[j], x.ofOffice(1, 0), due[j][1]);
        }
    }

    private static void fewerPeopleThanAhead() {
        StampRaids x = Due.begun(SIX);
        Due.is("war(3, 0, 0, 27)", x.war(3, 0, 0, 27), 2);
        Due.is("many(0)", x.many(0), 2);
        Due.is("many(1)", x.many(1), 2);
        Due.is("the last one", x.ofPerson(1, 3), 3);
        Due.is("one that was", x.ofPerson(2, 3), -1);
        Due.is("all of office 0", x.ofOffice(0, 2), 1);
        Due.is("all of office 1", x.ofOffice(1, 2), 2);
        Due.is("the peace of two", x.peace(1), 9);
        Due.is("the raid on one", x.raid(1, 0, 1), 1);
    }

    private static void morePeopleThanAhead() {
        StampRaids x = Due.begun(SIX);
        x.war(3, 0, 0, 27);
        Due.is("war(3, 0, 0, 47)", x.war(3, 0, 0, 47), 6);
        Due.is("the last one", x.ofPerson(5, 3), 9);
        Due.is("the last one's kind", x.ofPerson(5, 0), 2);
    }

    private static void noStrikesNoReadings() {
        StampRaids x = Due.begun(SIX);
        x.strike(1, 0);
        x.reading(0, 9);
        x.decree(0, 0, 3);
        x.starch(1, 9);
        x.fetches(0, 60);
        Due.is("the same war", x.war(3, 0, 0, 47), 6);
        Due.is("many(2)", x.many(2), 0);
        Due.is("many(3)", x.many(3), 0);
        Due.is("back(1)", x.back(1), -2);
        Due.is("necks(0)", x.necks(0), 1023);
        Due.is("the first reading's number", x.reading(0, 5), 0);
        Due.is("rule(0, 0)", x.rule(0, 0), 1);
        Due.is("mark of 1", x.ofPerson(1, 2), 0);
        Due.is("neck of 1", x.ofPerson(1, 3), 3);
        Due.is("ink of 0", x.ofOffice(0, 0), 30);
    }

    private static void sheetsAndTraceStay() {
        StampRaids x = Due.begun(SIX);
        x.tell(0);
        x.sheet(1, 2, 0);
        Due.row(x, 2, 1, 5);
        x.war(3, 0, 0, 47);
        Due.is("trace()", x.trace(), 1);
        Due.is("lose(0), of nothing", x.lose(0), 0);
        Due.is("lose(1), of no cells", x.lose(1), 1);
        Due.is("cell(2, 0, 1)", x.cell(2, 0, 1), 5);
        Due.is("cell(3, 46, 0)", x.cell(3, 46, 0), '9');
    }

    private static void textNotTakenLeavesAll() {
        StampRaids x = Due.begun(SIX);
        x.strike(1, 0);
        x.reading(0, 5);
        x.put(3, 26, ':');
        Due.is(x, "war(3, 0, 0, 47)", x.war(3, 0, 0, 47), -126, 0);
        Due.is("many(0)", x.many(0), 6);
        Due.is("many(2)", x.many(2), 1);
        Due.is("many(3)", x.many(3), 1);
        Due.is("mark of 1", x.ofPerson(1, 2), 1);
        Due.is("ink of 0", x.ofOffice(0, 0), 26);
    }

    // ---- 3 to 7

    private static void peopleAtTheirEnds() {
        StampRaids x = Due.begun(SIX);
        int[] whom = {MIN, -1, 6, 7, MAX};
        for (int p : whom) {
            Due.is("ofPerson(" + p + ", 0)", x.ofPerson(p, 0), -1);
        }
        Due.is("ofPerson(0, 3)", x.ofPerson(0, 3), 5);
        Due.is("ofPerson(5, 3)", x.ofPerson(5, 3), 9);
        int[] whats = {MIN, -1, 6, MAX};
        for (int what : whats) {
            Due.is("ofPerson(0, " + what + ")", x.ofPerson(0, what), -2);
        }
        Due.is("ofPerson(5, 0)", x.ofPerson(5, 0), 2);
        Due.is("ofPerson(5, 5)", x.ofPerson(5, 5), 0);
        StampRaids two = Due.begun(TWO);
        Due.is("the last of two", two.ofPerson(1, 0), 1);
        Due.is("no third", two.ofPerson(2, 0), -1);
    }

    private static void takesAtTheEnds(String letter, int withNone, int withNine) {
        StampRaids x = Due.begun("w0000000000000000;" + letter + "000;" + letter + "109");
        Due.is("neck 0 of " + letter, x.ofPerson(0, 4), withNone);
        Due.is("neck 9 of " + letter, x.ofPerson(1, 4), withNine);
    }

    private static void plainTakesAtItsEnds() {
        takesAtTheEnds("p", 0, 9);
    }

    private static void clerkTakesAtItsEnds() {
        takesAtTheEnds("c", 1, 10);
    }

    private static void generalTakesAtItsEnds() {
        takesAtTheEnds("g", 2, 20);
    }

    private static void marksAtWork() {
        StampRaids x = Due.begun("w0000000000000000;p000;p010;p020;p030");
        Due.is("mark 0", x.ofPerson(0, 5), 1);
        Due.is("mark 1", x.ofPerson(1, 5), 0);
        Due.is("mark 2", x.ofPerson(2, 5), 1);
        Due.is("mark 3", x.ofPerson(3, 5), 0);
        Due.is("many(1)", x.many(1), 2);
    }

    private static void rulesAtTheirEnds() {
        StampRaids x = Due.begun("w0000123321012230;p000;p100");
        Due.is("rule(0, 0)", x.rule(0, 0), 1);
        Due.is("rule(0, 2)", x.rule(0, 2), 3);
        Due.is("rule(3, 0)", x.rule(3, 0), 2);
        Due.is("rule(3, 2)", x.rule(3, 2), 0);
        int[][] calls = {{-1, 0}, {4, 0}, {0, -1}, {0, 3}, {MIN, 0}, {MAX, 0}, {0, MIN}, {0, MAX}, {3, 3}, {1, -3}};
        for (int[] one : calls) {
            Due.is("rule(" + one[0] + ", " + one[1] + ")", x.rule(one[0], one[1]), -2);
        }
    }

    private static void decreeAtItsEnds() {
        StampRaids x = Due.begun("w0000123321012230;p000;p100");
        int[][] calls = {{-1, 0, 0}, {4, 0, 0}, {0, -1, 0}, {0, 3, 0}, {0, 0, -1}, {0, 0, 4}, {0, 0, MIN}, {0, 0, MAX}};
        for (int[] one : calls) {
            Due.is("decree(" + one[0] + ", " + one[1] + ", " + one[2] + ")", x.decree(one[0], one[1], one[2]), -2);
        }
        Due.is("decree(0, 0, 0)", x.decree(0, 0, 0), 1);
        Due.is("decree(3, 2, 3)", x.decree(3, 2, 3), 0);
        Due.is("rule(0, 0)", x.rule(0, 0), 0);
        Due.is("rule(3, 2)", x.rule(3, 2), 3);
        Due.is("its neighbour", x.rule(0, 1), 2);
        Due.is("its other neighbour", x.rule(3, 1), 3);
    }

    private static void decreeOfWhatItIs() {
        StampRaids x = Due.begun("w0000123321012230;p000;p100");
        Due.is("decree(0, 2, 3)", x.decree(0, 2, 3), 3);
        Due.is("decree(0, 2, 3)", x.decree(0, 2, 3), 3);
        Due.is("rule(0, 2)", x.rule(0, 2), 3);
    }

    private static void starchAtItsEnds() {
        StampRaids x = Due.begun(SIX);
        Due.is("starch(0, -1)", x.starch(0, -1), -2);
        Due.is("starch(0, 10)", x.starch(0, 10), -2);
        Due.is("starch(0, MIN)", x.starch(0, MIN), -2);
        Due.is("starch(0, MAX)", x.starch(0, MAX), -2);
        Due.is("starch(-1, 0)", x.starch(-1, 0), -1);
        Due.is("starch(6, 0)", x.starch(6, 0), -1);
        Due.is("starch(0, 0)", x.starch(0, 0), 5);
        Due.is("starch(0, 9)", x.starch(0, 9), 0);
        Due.is("starch(5, 9), as it is", x.starch(5, 9), 9);
        Due.is("neck of 0", x.ofPerson(0, 3), 9);
    }

    private static void officesAtTheirEnds() {
        StampRaids x = Due.begun(SIX);
        int[][] calls = {{-1, 0}, {2, 0}, {MIN, 0}, {MAX, 0}, {0, -1}, {0, 3}, {1, MIN}, {1, MAX}};
        for (int[] one : calls) {
            Due.is("ofOffice(" + one[0] + ", " + one[1] + ")", x.ofOffice(one[0], one[1]), -2);
        }
        Due.is("ofOffice(0, 0)", x.ofOffice(0, 0), 30);
        Due.is("ofOffice(1, 2)", x.ofOffice(1, 2), 42);
    }

    private static void setsOfNobodyAndOfAll() {
        StampRaids x = Due.begun("w0000000000000000;p100;p100;p120;p120;p100;p100");
        Due.is("nobody of office 0", x.ofOffice(0, 2), 0);
        Due.is("nobody of office 0 at work", x.ofOffice(0, 1), 0);
        Due.is("all of office 1", x.ofOffice(1, 2), 63);
        Due.is("all of office 1 at work", x.ofOffice(1, 1), 63);
        Due.is("many(1)", x.many(1), 6);
        StampRaids none = Due.begun("w0000000000000000;p130;p010");
        Due.is("of office 0, not at work", none.ofOffice(0, 1), 0);
        Due.is("of office 0", none.ofOffice(0, 2), 2);
        Due.is("many(1)", none.many(1), 0);
    }
}
