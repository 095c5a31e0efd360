/** Promises 1 to 7: a new object, the war by its text, people, rules, decrees, starch, offices. */
public final class WarTest {
    /** Sinks at mark 3; 0 and 1 become each other; two of each kind. */
    private static final String TEXT = "w3025120013230333;p005;c103;g012;p120;c027;g119";

    public static void main(String[] args) {
        newObject();
        warTaken();
        warIsTakenFromWhereItStands();
        firstFaultAtEveryPlace();
        textsThatEndTooSoon();
        warRefusals();
        warRefusedChangesNothing();
        warMakesAllAnew();
        ofPerson();
        rule();
        decree();
        starch();
        ofOffice();
        Due.end();
    }

    private static void newObject() {
        StampRaids x = new StampRaids();
        Due.is("new fault()", x.fault(), 0);
        Due.is("new trace()", x.trace(), 0);
        for (int what = 0; what < 4; what++) {
            Due.is("new many(" + what + ")", x.many(what), 0);
        }
        for (int k = 0; k < 4; k++) {
            Due.is("new put(" + k + ", 0, 1)", x.put(k, 0, 1), -11);
            Due.is("new lose(" + k + ")", x.lose(k), 0);
        }
        Due.is("new ofPerson(0, 0)", x.ofPerson(0, 0), -1);
        Due.is("new ofPerson(0, 9)", x.ofPerson(0, 9), -1);
        Due.is("new rule(0, 0)", x.rule(0, 0), -3);
        Due.is("new rule(9, 9)", x.rule(9, 9), -3);
        Due.is("new decree(0, 0, 0)", x.decree(0, 0, 0), -3);
        Due.is("new decree(9, 9, 9)", x.decree(9, 9, 9), -3);
        Due.is("new starch(0, 0)", x.starch(0, 0), -1);
        Due.is("new ofOffice(0, 0)", x.ofOffice(0, 0), -3);
        Due.is("new ofOffice(9, 9)", x.ofOffice(9, 9), -3);
    }

    private static void warTaken() {
        for (int lane = 0; lane < 3; lane++) {
            StampRaids x = new StampRaids();
            Due.write(x, lane, lane, TEXT);
            Due.is("war of six", x.war(lane, lane, 0, 47), 6);
            Due.is("fault() behind it", x.fault(), 0);
            Due.is("many(0)", x.many(0), 6);
            Due.is("many(1)", x.many(1), 4);
        }
        for (int people = 2; people <= 6; people++) {
            String text = TEXT.substring(0, 17 + 5 * people);
            Due.is("many(0) of " + text, Due.begun(text).many(0), people);
        }
        StampRaids most = Due.begun("w9999333333333333;g139;g139");
        Due.is("most ink", most.ofOffice(0, 0), 99);
        Due.is("most ink", most.ofOffice(1, 0), 99);
        StampRaids least = Due.begun("w0000000000000000;p000;p000");
        Due.is("least ink", least.ofOffice(0, 0), 0);
        Due.is("least ink", least.ofOffice(1, 0), 0);
        StampRaids four = Due.begun("w1234000000000000;p000;p000");
        Due.is("ink of office 0", four.ofOffice(0, 0), 12);
        Due.is("ink of office 1", four.ofOffice(1, 0), 34);
    }

    private static void warIsTakenFromWhereItStands() {
        StampRaids x = new StampRaids();
        String two = TEXT.substring(0, 27);
        Due.write(x, 1, 1, "ww" + two + ";p");
        Due.is("war(1, 1, 2, 27)", x.war(1, 1, 2, 27), 2);
        Due.is("ink 0", x.ofOffice(0, 0), 30);
        Due.is("ink 1", x.ofOffice(1, 0), 25);
        Due.is("rule(1, 2)", x.rule(1, 2), 3);
        Due.is("rule(2, 0)", x.rule(2, 0), 2);
        Due.is("neck of 1", x.ofPerson(1, 3), 3);
        Due.is("war(1, 1, 1, 27)", x.war(1, 1, 1, 27), -101);
        Due.is("war(1, 1, 2, 28)", x.war(1, 1, 2, 28), -128);
        Due.is("war(1, 1, 31, 0)", x.war(1, 1, 31, 0), -100);
        Due.is("war(1, 1, 32, 0)", x.war(1, 1, 32, 0), -13);
    }

    /** What goes on at a place of a text, as the least and the greatest code, or the letters. */
    private static boolean goesOn(int place, int code) {
        if (place == 0) {
            return code == 119;
        }
        if (place < 17) {
            return code >= 48 && code <= (place < 5 ? 57 : 51);
        }
        switch ((place - 17) % 5) {
            case 0: return place < 47 && code == 59;
            case 1: return code == 112 || code == 99 || code == 103;
            case 2: return code == 48 || code == 49;
            case 3: return code >= 48 && code <= 51;
            default: return code >= 48 && code <= 57;
        }
    }

    private static void firstFaultAtEveryPlace() {
        int[] codes = {
            47, 48, 49, 50, 51, 52, 57, 58, 59, 60, 99, 100, 98, 102, 103, 104, 111, 112, 113, 118, 119, 120,
            0, -1, 65584, 375, -137,
        };
        StampRaids x = new StampRaids();
        int calls = 0;
        for (int place = 0; place <= 47; place++) {
            for (int code : codes) {
                if (calls % 3 == 0) {
                    x = new StampRaids();
                    Due.write(x, 2, 2, TEXT + ";p00");
                }
                calls++;
                int was = (int) x.cell(2, place, 2);
                x.put(2, place, code);
                int n = Math.max(place + 1, 27);
                int due = goesOn(place, code) ? -100 - n : -100 - place;
                if (place < 47 && goesOn(place, code) && (n - 17) % 5 == 0) {
                    due = (n - 17) / 5;
                }
                Due.is("war with " + code + " at " + place, x.war(2, 2, 0, n), due);
                x.put(2, place, was);
            }
        }
        Due.is("two faults, the first", faulty("w30a5120b"), -103);
        Due.is("a seventh person", faulty(TEXT + ";p005"), -147);
        Due.is("something behind the sixth", faulty(TEXT + "w"), -147);
        Due.is("something behind the second", faulty(TEXT.substring(0, 27) + "p"), -127);
    }

    private static int faulty(String text) {
        StampRaids x = new StampRaids();
        Due.write(x, 0, 0, text);
        int answer = x.war(0, 0, 0, text.length());
        Due.is("fault() of a wrong text", x.fault(), 0);
        Due.is("no people", x.many(0), 0);
        return answer;
    }

    private static void textsThatEndTooSoon() {
        StampRaids x = new StampRaids();
        Due.write(x, 1, 2, TEXT);
        for (int n = 0; n <= 47; n++) {
            boolean whole = n >= 27 && (n - 17) % 5 == 0;
            Due.is("war of the first " + n, x.war(1, 2, 0, n), whole ? (n - 17) / 5 : -100 - n);
        }
    }

    private static void warRefusals() {
        StampRaids x = new StampRaids();
        Due.write(x, 1, 1, TEXT);
        Due.is("war(4, 9, -1, -1)", x.war(4, 9, -1, -1), -1);
        Due.is("war(-1, 9, -1, -1)", x.war(-1, 9, -1, -1), -1);
        Due.is("war(1, 3, -1, -1)", x.war(1, 3, -1, -1), -2);
        Due.is("war(1, -1, -1, -1)", x.war(1, -1, -1, -1), -2);
        Due.is("war(0, 3, -1, -1)", x.war(0, 3, -1, -1), -2);
        Due.is("fault()", x.fault(), 0);
        Due.is("war(1, 2, -1, -1)", x.war(1, 2, -1, -1), -12);
        Due.is("fault()", x.fault(), 2);
        Due.is("war(0, 2, -1, -1)", x.war(0, 2, -1, -1), -11);
        Due.is("fault()", x.fault(), 1);
        Due.is("war(1, 1, -1, -1)", x.war(1, 1, -1, -1), -14);
        Due.is("fault()", x.fault(), 4);
        Due.is("war(1, 1, 0, MIN)", x.war(1, 1, 0, Integer.MIN_VALUE), -14);
        Due.is("war(1, 1, -1, 0)", x.war(1, 1, -1, 0), -13);
        Due.is("war(1, 1, -1, 1)", x.war(1, 1, -1, 1), -13);
        Due.is("war(1, 1, 48, 0)", x.war(1, 1, 48, 0), -13);
        Due.is("war(1, 1, 47, 0)", x.war(1, 1, 47, 0), -100);
        Due.is("war(1, 1, 47, 1)", x.war(1, 1, 47, 1), -13);
        Due.is("war(1, 1, 0, 48)", x.war(1, 1, 0, 48), -13);
        Due.is("war(1, 1, 1, MAX)", x.war(1, 1, 1, Integer.MAX_VALUE), -13);
        Due.is("war(1, 1, MAX, MAX)", x.war(1, 1, Integer.MAX_VALUE, Integer.MAX_VALUE), -13);
        Due.is("war(1, 1, MIN, 1)", x.war(1, 1, Integer.MIN_VALUE, 1), -13);
        Due.is("fault()", x.fault(), 3);
        Due.is("war(1, 1, 0, 46)", x.war(1, 1, 0, 46), -146);
        Due.is("fault()", x.fault(), 0);
    }

    private static void warRefusedChangesNothing() {
        StampRaids x = Due.begun(TEXT);
        x.strike(0, 0);
        x.reading(1, 7);
        x.decree(3, 0, 1);
        x.starch(2, 8);
        int[] refusals = {
            x.war(4, 0, 0, 27), x.war(3, 3, 0, 27), x.war(3, 1, 0, 27), x.war(0, 0, 0, 27), x.war(3, 0, 0, -1),
            x.war(3, 0, 30, 27), x.war(3, 0, 0, 26), x.war(3, 0, 1, 27),
        };
        int[] due = {-1, -2, -12, -11, -14, -13, -126, -100};
        for (int j = 0; j < due.length; j++) {
            Due.is("refused war " + j, refusals[j], due[j]);
        }
        Due.is("many(0)", x.many(0), 6);
        Due.is("many(1)", x.many(1), 3);
        Due.is("many(2)", x.many(2), 1);
        Due.is("many(3)", x.many(3), 1);
        Due.is("rule(3, 0)", x.rule(3, 0), 1);
        Due.is("neck of 2", x.ofPerson(2, 3), 8);
        Due.is("mark of 0", x.ofPerson(0, 2), 1);
        Due.is("ink of 1", x.ofOffice(1, 0), 20);
    }

    private static void warMakesAllAnew() {
        StampRaids x = Due.begun(TEXT);
        x.strike(0, 0);
        x.strike(1, 0);
        x.reading(1, 7);
        x.decree(3, 0, 1);
        x.starch(0, 8);
        x.tell(0);
        Due.row(x, 2, 2, 7, 8);
        x.cell(2, 5, 2);
        Due.is("war(3, 0, 0, 32)", x.war(3, 0, 0, 32), 3);
        Due.is("fault()", x.fault(), 0);
        Due.is("many(0)", x.many(0), 3);
        Due.is("many(1)", x.many(1), 2);
        Due.is("many(2)", x.many(2), 0);
        Due.is("many(3)", x.many(3), 0);
        Due.is("rule(3, 0)", x.rule(3, 0), 3);
        Due.is("neck of 0", x.ofPerson(0, 3), 5);
        Due.is("mark of 0", x.ofPerson(0, 2), 0);
        Due.is("ink of 0", x.ofOffice(0, 0), 30);
        Due.is("ink of 1", x.ofOffice(1, 0), 25);
        Due.is("ofPerson(3, 0)", x.ofPerson(3, 0), -1);
        Due.is("trace()", x.trace(), 1);
        Due.is("cell(2, 1, 2)", x.cell(2, 1, 2), 8);
        Due.is("cell(3, 0, 0)", x.cell(3, 0, 0), 119);
    }

    private static void ofPerson() {
        StampRaids x = Due.begun(TEXT);
        int[][] due = {
            {0, 0, 0, 5, 5, 1}, {1, 1, 0, 3, 4, 1}, {2, 0, 1, 2, 6, 0},
            {0, 1, 2, 0, 0, 1}, {1, 0, 2, 7, 8, 1}, {2, 1, 1, 9, 20, 0},
        };
        for (int p = 0; p < 6; p++) {
            for (int what = 0; what < 6; what++) {
                Due.is("ofPerson(" + p + ", " + what + ")", x.ofPerson(p, what), due[p][what]);
            }
            Due.is("ofPerson(" + p + ", 6)", x.ofPerson(p, 6), -2);
            Due.is("ofPerson(" + p + ", -1)", x.ofPerson(p, -1), -2);
        }
        Due.is("ofPerson(6, 0)", x.ofPerson(6, 0), -1);
        Due.is("ofPerson(6, 6)", x.ofPerson(6, 6), -1);
        Due.is("ofPerson(-1, -1)", x.ofPerson(-1, -1), -1);
        Due.is("ofPerson(MIN, 0)", x.ofPerson(Integer.MIN_VALUE, 0), -1);
        StampRaids marked = Due.begun("w0000000000000000;p000;p010;p020;p030");
        int[] atWork = {1, 0, 1, 0};
        for (int p = 0; p < 4; p++) {
            Due.is("at work with mark " + p, marked.ofPerson(p, 5), atWork[p]);
        }
        StampRaids two = Due.begun(TEXT.substring(0, 27));
        Due.is("ofPerson(2, 0) of two", two.ofPerson(2, 0), -1);
    }

    private static void rule() {
        StampRaids x = Due.begun(TEXT);
        int[] due = {1, 2, 0, 0, 1, 3, 2, 3, 0, 3, 3, 3};
        for (int mark = 0; mark < 4; mark++) {
            for (int stamp = 0; stamp < 3; stamp++) {
                Due.is("rule(" + mark + ", " + stamp + ")", x.rule(mark, stamp), due[3 * mark + stamp]);
            }
        }
        Due.is("rule(4, 0)", x.rule(4, 0), -2);
        Due.is("rule(-1, 0)", x.rule(-1, 0), -2);
        Due.is("rule(0, 3)", x.rule(0, 3), -2);
        Due.is("rule(1, -1)", x.rule(1, -1), -2);
    }

    private static void decree() {
        StampRaids x = Due.begun(TEXT);
        Due.is("decree(2, 1, 0)", x.decree(2, 1, 0), 3);
        Due.is("decree(2, 1, 2)", x.decree(2, 1, 2), 0);
        Due.is("decree(2, 1, 4)", x.decree(2, 1, 4), -2);
        Due.is("decree(2, 1, -1)", x.decree(2, 1, -1), -2);
        Due.is("decree(4, 1, 0)", x.decree(4, 1, 0), -2);
        Due.is("decree(-1, 1, 0)", x.decree(-1, 1, 0), -2);
        Due.is("decree(2, 3, 0)", x.decree(2, 3, 0), -2);
        Due.is("decree(2, -1, 0)", x.decree(2, -1, 0), -2);
        int[] due = {1, 2, 0, 0, 1, 3, 2, 2, 0, 3, 3, 3};
        for (int j = 0; j < 12; j++) {
            Due.is("rule " + j, x.rule(j / 3, j % 3), due[j]);
        }
        Due.is("strike by the decree", x.strike(4, 1), 2);
        Due.is("decree(3, 2, 3)", x.decree(3, 2, 3), 3);
        Due.is("decree(3, 2, 0)", x.decree(3, 2, 0), 3);
        Due.is("rule(3, 2)", x.rule(3, 2), 0);
    }

    private static void starch() {
        StampRaids x = Due.begun(TEXT);
        Due.is("starch(5, 0)", x.starch(5, 0), 9);
        Due.is("neck", x.ofPerson(5, 3), 0);
        Due.is("takes", x.ofPerson(5, 4), 2);
        Due.is("starch(5, 9)", x.starch(5, 9), 0);
        Due.is("starch(5, 10)", x.starch(5, 10), -2);
        Due.is("starch(5, -1)", x.starch(5, -1), -2);
        Due.is("starch(6, 10)", x.starch(6, 10), -1);
        Due.is("starch(-1, 5)", x.starch(-1, 5), -1);
        Due.is("neck", x.ofPerson(5, 3), 9);
        Due.is("neck of another", x.ofPerson(4, 3), 7);
        Due.is("starch(4, 7)", x.starch(4, 7), 7);
    }

    private static void ofOffice() {
        StampRaids x = Due.begun(TEXT);
        int[][] due = {{30, 17, 21}, {25, 10, 42}};
        for (int office = 0; office < 2; office++) {
            for (int what = 0; what < 3; what++) {
                Due.is("ofOffice(" + office + ", " + what + ")", x.ofOffice(office, what), due[office][what]);
            }
            Due.is("ofOffice(" + office + ", 3)", x.ofOffice(office, 3), -2);
            Due.is("ofOffice(" + office + ", -1)", x.ofOffice(office, -1), -2);
        }
        Due.is("ofOffice(2, 0)", x.ofOffice(2, 0), -2);
        Due.is("ofOffice(-1, 0)", x.ofOffice(-1, 0), -2);
        StampRaids one = Due.begun("w0102000000000000;p000;p010");
        Due.is("an office of nobody", one.ofOffice(1, 2), 0);
        Due.is("nobody at work", one.ofOffice(1, 1), 0);
        Due.is("all of it", one.ofOffice(0, 2), 3);
    }
}
