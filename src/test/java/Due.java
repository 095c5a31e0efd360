/** What the tests share: answers held against those that are due, and wars put together from texts. */
final class Due {
    private static int right = 0;
    private static int wrong = 0;

    private Due() {
    }

    static void is(String call, long got, long want) {
        if (got == want) {
            right++;
            return;
        }
        wrong++;
        if (wrong <= 40) {
            System.out.println(call + " answered " + got + ", due is " + want);
        }
    }

    /** A call that names faults, and what fault() answers behind it. */
    static void is(StampRaids x, String call, long got, long want, int fault) {
        is(call, got, want);
        is("fault() behind " + call, x.fault(), fault);
    }

    static void end() {
        System.out.println(right + " answers as due, " + wrong + " not");
        if (wrong != 0) {
            System.exit(1);
        }
    }

    /** A sheet gets a row of a lane with the codes of a text. */
    static void write(StampRaids x, int sheet, int lane, String text) {
        x.sheet(sheet, lane, text.length());
        for (int j = 0; j < text.length(); j++) {
            x.put(sheet, j, text.charAt(j));
        }
    }

    static void row(StampRaids x, int sheet, int lane, int... cells) {
        x.sheet(sheet, lane, cells.length);
        for (int j = 0; j < cells.length; j++) {
            x.put(sheet, j, cells[j]);
        }
    }

    /** A new object with the war of a text, which stands in sheet 3, of bytes. */
    static StampRaids begun(String text) {
        StampRaids x = new StampRaids();
        write(x, 3, 0, text);
        x.war(3, 0, 0, text.length());
        return x;
    }
}
