/** Promises 17 to 22: readings and what follows by them, fits, odds. */
public final class SeenTest {
    private static final String TEXT = "w3025120013230333;p005;c103;g012;p120;c027;g119";

    public static void main(String[] args) {
        reading();
        readingRefusals();
        back();
        necksByEveryReading();
        kindsByEveryReading();
        inPlaceOfWhatItIsAlone();
        necksAndKindsRefusals();
        fits();
        fitsByEveryStamp();
        fitsRefusals();
        odds();
        oddsRefusals();
        Due.end();
    }

    private static void reading() {
        StampRaids x = Due.begun(TEXT);
        for (int k = 0; k < 8; k++) {
            Due.is("many(3)", x.many(3), k);
            Due.is("reading " + k, x.reading(k % 6, k == 3 ? 20 : 0), k);
        }
        Due.is("a ninth reading", x.reading(0, 0), -4);
        Due.is("reading(0, 21)", x.reading(0, 21), -2);
        Due.is("reading(6, 0)", x.reading(6, 0), -1);
        Due.is("many(3)", x.many(3), 8);
    }

    private static void readingRefusals() {
        Due.is("new reading(0, 0)", new StampRaids().reading(0, 0), -1);
        StampRaids x = Due.begun(TEXT);
        Due.is("reading(6, 21)", x.reading(6, 21), -1);
        Due.is("reading(-1, 0)", x.reading(-1, 0), -1);
        Due.is("reading(0, 21)", x.reading(0, 21), -2);
        Due.is("reading(0, -1)", x.reading(0, -1), -2);
        Due.is("many(3)", x.many(3), 0);
        Due.is("necks(0)", x.necks(0), 1023);
    }

    private static void back() {
        StampRaids x = new StampRaids();
        Due.is("new back(0)", x.back(0), 0);
        Due.is("new back(1)", x.back(1), -2);
        Due.is("new back(-1)", x.back(-1), -2);
        x = Due.begun(TEXT);
        x.reading(0, 5);
        x.reading(0, 6);
        x.reading(1, 4);
        Due.is("back(4)", x.back(4), -2);
        Due.is("back(-1)", x.back(-1), -2);
        Due.is("back(0)", x.back(0), 3);
        Due.is("necks(0)", x.necks(0), 0);
        Due.is("back(2), the last ones", x.back(2), 1);
        Due.is("necks(0)", x.necks(0), 32);
        Due.is("necks(1)", x.necks(1), 1023);
        Due.is("the next is numbered anew", x.reading(1, 5), 1);
        Due.is("necks(1)", x.necks(1), 16);
        Due.is("back(2)", x.back(2), 0);
        Due.is("back(1)", x.back(1), -2);
        Due.is("many(3)", x.many(3), 0);
    }

    private static void necksByEveryReading() {
        for (int v = 0; v <= 20; v++) {
            StampRaids x = Due.begun(TEXT);
            x.reading(0, v);
            Due.is("necks of a plain one that takes " + v, x.necks(0), v <= 9 ? 1 << v : 0);
            x.back(1);
            x.reading(1, v);
            Due.is("necks of a clerk that takes " + v, x.necks(1), v >= 1 && v <= 10 ? 1 << v - 1 : 0);
            x.back(1);
            x.reading(2, v);
            Due.is("necks of a general that takes " + v, x.necks(2), v >= 2 && v % 2 == 0 ? 1 << v / 2 - 1 : 0);
        }
    }

    private static void kindsByEveryReading() {
        for (int neck = 0; neck <= 9; neck++) {
            for (int v = 0; v <= 20; v++) {
                StampRaids x = Due.begun(TEXT);
                x.starch(1, neck);
                x.reading(1, v);
                int due = (v == neck ? 1 : 0) + (v == neck + 1 ? 2 : 0) + (v == 2 * neck + 2 ? 4 : 0);
                Due.is("kinds of neck " + neck + " that takes " + v, x.kinds(1), due);
            }
        }
    }

    private static void inPlaceOfWhatItIsAlone() {
        StampRaids x = Due.begun(TEXT);
        x.reading(0, 5);
        x.reading(2, 6);
        Due.is("necks(0)", x.necks(0), 32);
        Due.is("necks(2)", x.necks(2), 4);
        Due.is("necks(1), all is so as it is", x.necks(1), 1023);
        Due.is("kinds(1)", x.kinds(1), 7);
        Due.is("kinds(2)", x.kinds(2), 4);
        x.starch(0, 6);
        Due.is("necks(0), behind the starch", x.necks(0), 32);
        Due.is("kinds(0), behind the starch", x.kinds(0), 0);
        Due.is("necks(2), as another's is not so", x.necks(2), 0);
        Due.is("kinds(2), as another's is not so", x.kinds(2), 0);
        Due.is("necks(1), as another's is not so", x.necks(1), 0);
        Due.is("kinds(1), as another's is not so", x.kinds(1), 0);
        x.starch(0, 5);
        Due.is("necks(1)", x.necks(1), 1023);
        x.reading(2, 7);
        Due.is("necks(2), of two unlike readings", x.necks(2), 0);
        Due.is("neck of 2 stays", x.ofPerson(2, 3), 2);
        Due.is("kind of 2 stays", x.ofPerson(2, 0), 2);
        x.back(1);
        x.reading(2, 6);
        Due.is("necks(2), of two like readings", x.necks(2), 4);
    }

    private static void necksAndKindsRefusals() {
        StampRaids x = new StampRaids();
        Due.is("new necks(0)", x.necks(0), -1);
        Due.is("new kinds(0)", x.kinds(0), -1);
        x = Due.begun(TEXT);
        Due.is("necks(6)", x.necks(6), -1);
        Due.is("necks(-1)", x.necks(-1), -1);
        Due.is("kinds(6)", x.kinds(6), -1);
        Due.is("kinds(-1)", x.kinds(-1), -1);
    }

    private static void fits() {
        StampRaids x = Due.begun(TEXT);
        x.decree(3, 0, 0);
        Due.row(x, 1, 1, 0, 1, 0, 1, 3, 3, 3, 0);
        Due.is("fits of none", x.fits(1, 1, 0, 0), 7);
        Due.is("fits of none at the end", x.fits(1, 1, 8, 0), 7);
        Due.is("fits of one", x.fits(1, 1, 7, 1), 7);
        Due.is("fits 0 1", x.fits(1, 1, 0, 2), 1);
        Due.is("fits 0 1 0 1", x.fits(1, 1, 0, 4), 1);
        Due.is("fits 0 1 0 1 3", x.fits(1, 1, 0, 5), 0);
        Due.is("fits 1 3 3", x.fits(1, 1, 3, 3), 4);
        Due.is("fits 3 3 3", x.fits(1, 1, 4, 3), 6);
        Due.is("fits 3 0", x.fits(1, 1, 6, 2), 1);
        Due.is("fits 3 3 3 0", x.fits(1, 1, 4, 4), 0);
        Due.is("fault()", x.fault(), 0);
        x.decree(3, 0, 3);
        Due.is("fits 3 3 3, behind another decree", x.fits(1, 1, 4, 3), 7);
    }

    private static void fitsByEveryStamp() {
        for (int lane = 0; lane < 3; lane++) {
            StampRaids x = Due.begun("w0000123230301012;p000;p100");
            // Stamp 0: 0 1 2 3 0; stamp 1: 0 2 0 and 1 3 1; stamp 2: 0 3 2 1 0.
            Due.row(x, 0, lane, 0, 1, 2, 3, 0, 1, 2, 3, 0, 1, 2, 3, 0, 1, 2, 3, 0, 1, 2, 3, 1, 3, 1, 0);
            Due.is("fits of twenty", x.fits(0, lane, 0, 20), 1);
            Due.is("fits 3 1 3 1", x.fits(0, lane, 19, 4), 2);
            Due.is("fits 1 0", x.fits(0, lane, 22, 2), 4);
            Due.is("fits 2 3 1", x.fits(0, lane, 18, 3), 0);
        }
    }

    private static void fitsRefusals() {
        StampRaids x = new StampRaids();
        Due.write(x, 3, 0, TEXT);
        Due.row(x, 1, 1, 0, 4, -1, 0);
        Due.is("new fits(4, 3, -1, 21)", x.fits(4, 3, -1, 21), -1);
        Due.is("new fits(1, 3, -1, 1)", x.fits(1, 3, -1, 1), -2);
        Due.is("new fits(1, 0, -1, 21)", x.fits(1, 0, -1, 21), -2);
        Due.is("new fits(1, 0, -1, 1)", x.fits(1, 0, -1, 1), -3);
        x.war(3, 0, 0, 47);
        Due.is("fits(-1, 0, 0, 0)", x.fits(-1, 0, 0, 0), -1);
        Due.is("fits(1, -1, -1, 1)", x.fits(1, -1, -1, 1), -2);
        Due.is("fits(1, 0, -1, -1)", x.fits(1, 0, -1, -1), -2);
        Due.is("fits(1, 0, -1, 1)", x.fits(1, 0, -1, 1), -12);
        Due.is("fault()", x.fault(), 2);
        Due.is("fits(0, 0, -1, 1)", x.fits(0, 0, -1, 1), -11);
        Due.is("fault()", x.fault(), 1);
        Due.is("fits(1, 1, -1, 1)", x.fits(1, 1, -1, 1), -13);
        Due.is("fault()", x.fault(), 3);
        Due.is("fits(1, 1, 5, 0)", x.fits(1, 1, 5, 0), -13);
        Due.is("fits(1, 1, 1, 4)", x.fits(1, 1, 1, 4), -13);
        Due.is("fits(1, 1, MAX, 20)", x.fits(1, 1, Integer.MAX_VALUE, 20), -13);
        Due.is("fits(1, 1, 0, 2)", x.fits(1, 1, 0, 2), -2);
        Due.is("fault()", x.fault(), 0);
        Due.is("fits(1, 1, 2, 1)", x.fits(1, 1, 2, 1), -2);
        Due.is("fits(1, 1, 1, 1)", x.fits(1, 1, 1, 1), -2);
        Due.is("fits(1, 1, 2, 2)", x.fits(1, 1, 2, 2), -2);
        Due.is("fits(1, 1, 0, 1)", x.fits(1, 1, 0, 1), 7);
    }

    private static void oddsAre(StampRaids x, int p, int n, int upper, int lower) {
        Due.is("odds(" + p + ", " + n + ", 0)", x.odds(p, n, 0), upper);
        Due.is("odds(" + p + ", " + n + ", 1)", x.odds(p, n, 1), lower);
    }

    private static void odds() {
        StampRaids x = Due.begun(TEXT);
        oddsAre(x, 0, 0, 1, 1);
        oddsAre(x, 2, 0, 0, 1);
        oddsAre(x, 3, 0, 1, 1);
        oddsAre(x, 0, 1, 2, 3);
        oddsAre(x, 2, 1, 1, 3);
        oddsAre(x, 0, 2, 5, 9);
        // Marks 1 and 3 stay among themselves, as do 0 and 2.
        StampRaids same = Due.begun("w0000022131202313;p000;p110;p020;p030");
        oddsAre(same, 0, 9, 1, 1);
        oddsAre(same, 1, 9, 0, 1);
        oddsAre(same, 2, 5, 1, 1);
        oddsAre(same, 3, 1, 0, 1);
        // One stamp of three keeps one at work, whatever was: a third behind any number of strikes.
        StampRaids third = Due.begun("w0000031231123213;p009;g119");
        for (int n = 1; n < 10; n++) {
            oddsAre(third, 0, n, 1, 3);
            oddsAre(third, 1, n, 1, 3);
        }
        // Whoever is put from work stays so: two thirds are left by each strike.
        StampRaids fewer = Due.begun("w0000021111203333;p009;g119");
        oddsAre(fewer, 0, 9, 512, 19683);
        oddsAre(fewer, 0, 8, 256, 6561);
        oddsAre(fewer, 1, 9, 0, 1);
    }

    private static void oddsRefusals() {
        long lost = Long.MIN_VALUE;
        StampRaids x = new StampRaids();
        Due.is("new odds(0, 0, 0)", x.odds(0, 0, 0), lost);
        x = Due.begun(TEXT);
        x.cell(0, 0, 0);
        Due.is("odds(6, 0, 0)", x.odds(6, 0, 0), lost);
        Due.is("odds(-1, 0, 0)", x.odds(-1, 0, 0), lost);
        Due.is("odds(0, 10, 0)", x.odds(0, 10, 0), lost);
        Due.is("odds(0, -1, 0)", x.odds(0, -1, 0), lost);
        Due.is("odds(0, 0, 2)", x.odds(0, 0, 2), lost);
        Due.is("odds(0, 0, -1)", x.odds(0, 0, -1), lost);
        Due.is("fault(), as odds names none", x.fault(), 1);
    }
}
