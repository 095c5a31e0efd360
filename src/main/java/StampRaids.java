import java.util.Arrays;

/** Two registries at war with rubber stamps; ../shared/DOC.md tells every promise by its number. */
public final class StampRaids {
    public static final int UNKNOWN = -1, OUTSIDE = -2, STATE = -3, FULL = -4, NONE = -9;
    public static final long LOST = Long.MIN_VALUE;

    private static final int NO_FAULT = 0, NULL = 1, CAST = 2, INDEX = 3, SIZE = 4;
    private static final int SHEETS = 4, LANES = 3, BYTES = 0, SHORTS = 1, MOST_CELLS = 60;
    private static final int OFFICES = 2, MARKS = 4, STAMPS = 3, KINDS = 3;
    private static final int FEWEST_PEOPLE = 2, MOST_PEOPLE = 6, SETS = 1 << MOST_PEOPLE;
    private static final int PLAIN = 0, CLERK = 1, GENERAL = 2;
    private static final int MOST_INK = 99, MOST_NECK = 9, MOST_TAKES = 20, MOST_READINGS = 8;
    private static final int WASHING = 3, MOST_PAIRS = 20, MOST_TOLD = 20, MOST_STAMPS = 9;
    private static final int NIGHT_NUMBERS = 4, NIGHT_MARKS = 10;
    private static final int RESTING_MARKS = 1 << 1 | 1 << 3;

    private final Sheet[] sheets = new Sheet[SHEETS];
    private final War war = new War();
    private final Night nightTold = new Night();
    private final Readings readings = new Readings();
    private final Bodies bodies = new Bodies();
    private int strikesDone;
    private int latestFault;

    public StampRaids() {
        for (int k = 0; k < SHEETS; k++) {
            sheets[k] = new Sheet();
        }
    }

    // ---- 1 the war

    public int war(int sheet, int lane, int i, int n) {
        latestFault = NO_FAULT;
        Sheet text = sheetOf(sheet);
        if (text == null) {
            return UNKNOWN;
        }
        if (!below(lane, LANES)) {
            return OUTSIDE;
        }
        int stop = text.faultOf(lane, i, n);
        if (stop != NO_FAULT) {
            return stopped(stop);
        }
        int wrong = Text.firstFault(text, i, n);
        if (wrong != NONE) {
            return -100 - wrong;
        }
        war.begins(text, i, Text.peopleIn(n));
        readings.clear();
        strikesDone = 0;
        return war.count;
    }

    public int ofPerson(int p, int what) {
        Person who = war.personOf(p);
        if (who == null) {
            return UNKNOWN;
        }
        switch (what) {
            case 0: return who.kind;
            case 1: return who.office;
            case 2: return who.mark;
            case 3: return who.neck;
            case 4: return who.takes();
            case 5: return who.isAtWork() ? 1 : 0;
            default: return OUTSIDE;
        }
    }

    public int rule(int mark, int stamp) {
        if (!war.isOn()) {
            return STATE;
        }
        if (!below(mark, MARKS) || !below(stamp, STAMPS)) {
            return OUTSIDE;
        }
        return war.rules.after(mark, stamp);
    }

    public int decree(int mark, int stamp, int v) {
        if (!war.isOn()) {
            return STATE;
        }
        if (!below(mark, MARKS) || !below(stamp, STAMPS) || !below(v, MARKS)) {
            return OUTSIDE;
        }
        int was = war.rules.after(mark, stamp);
        war.rules.become(mark, stamp, v);
        return was;
    }

    public int starch(int p, int v) {
        Person who = war.personOf(p);
        if (who == null) {
            return UNKNOWN;
        }
        if (!within(v, 0, MOST_NECK)) {
            return OUTSIDE;
        }
        int was = who.neck;
        who.neck = v;
        return was;
    }

    public int ofOffice(int office, int what) {
        if (!war.isOn()) {
            return STATE;
        }
        if (!below(office, OFFICES)) {
            return OUTSIDE;
        }
        switch (what) {
            case 0: return war.inks[office];
            case 1: return war.workersOf(office);
            case 2: return war.peopleOf(office);
            default: return OUTSIDE;
        }
    }

    // ---- 2 strikes

    public int strike(int p, int stamp) {
        Person who = war.personOf(p);
        if (who == null) {
            return UNKNOWN;
        }
        if (!below(stamp, STAMPS)) {
            return OUTSIDE;
        }
        if (!war.strikes(who, stamp)) {
            return STATE;
        }
        strikesDone++;
        return who.mark;
    }

    public int wash(int p) {
        Person who = war.personOf(p);
        if (who == null) {
            return UNKNOWN;
        }
        int was = who.mark;
        return war.washes(who) ? was : STATE;
    }

    public int fetches(int office, int n) {
        if (!war.isOn()) {
            return STATE;
        }
        if (!below(office, OFFICES) || !within(n, 1, MOST_INK)) {
            return OUTSIDE;
        }
        war.inks[office] = Math.min(MOST_INK, war.inks[office] + n);
        return war.inks[office];
    }

    public int night(int sheet, int lane, int i, int n, int what) {
        latestFault = NO_FAULT;
        Sheet told = sheetOf(sheet);
        if (told == null) {
            return UNKNOWN;
        }
        if (!below(lane, LANES) || !within(n, 0, MOST_PAIRS) || !isAskedOfNights(what)) {
            return OUTSIDE;
        }
        if (!war.isOn()) {
            return STATE;
        }
        int stop = told.faultOf(lane, i, 2 * n);
        if (stop != NO_FAULT) {
            return stopped(stop);
        }
        int refusal = refusalOfPairs(told, i, n);
        if (refusal != 0) {
            return refusal;
        }
        nightTold.passes(war, told, i, n);
        return nightTold.answer(what);
    }

    private static boolean isAskedOfNights(int what) {
        return within(what, 0, NIGHT_NUMBERS) || within(what, NIGHT_MARKS, NIGHT_MARKS + MOST_PEOPLE - 1);
    }

    /** What the first pair that is no act is refused with; 0: all of them are acts. */
    private int refusalOfPairs(Sheet told, int i, int n) {
        for (int pair = 0; pair < n; pair++) {
            if (!within(told.at(i + 2 * pair + 1), 0, WASHING)) {
                return OUTSIDE;
            }
            if (war.personOf(told.at(i + 2 * pair)) == null) {
                return UNKNOWN;
            }
        }
        return 0;
    }

    // ---- 3 marks, raids

    public int undoing(int from, int to, int k) {
        if (!war.isOn()) {
            return STATE;
        }
        // No row of the fewest stamps comes to a mark twice, so it has one stamp fewer than there are marks.
        if (!below(from, MARKS) || !below(to, MARKS) || !within(k, -1, MARKS - 2)) {
            return OUTSIDE;
        }
        int fewest = war.rules.fewest(from, 1 << to);
        if (fewest == Rules.FAR || k >= fewest) {
            return NONE;
        }
        return k == -1 ? fewest : war.rules.stampOnWay(from, to, k);
    }

    public int ways(int from, int to, int n) {
        if (!war.isOn()) {
            return STATE;
        }
        if (!below(from, MARKS) || !below(to, MARKS) || !within(n, 0, MOST_STAMPS)) {
            return OUTSIDE;
        }
        return war.rules.rowsTo(from, 1 << to, n);
    }

    public int worn(int mark, int stamp, int what) {
        if (!war.isOn()) {
            return STATE;
        }
        if (!below(mark, MARKS) || !below(stamp, STAMPS) || !within(what, 0, 1)) {
            return OUTSIDE;
        }
        int ahead = war.rules.strikesAhead(mark, stamp);
        if (what == 0) {
            return ahead;
        }
        return war.rules.comesBackBy(war.rules.struck(mark, stamp, ahead), stamp);
    }

    public int raid(int office, int n, int what) {
        if (!war.isOn()) {
            return STATE;
        }
        if (!below(office, OFFICES) || !within(n, 0, MOST_PEOPLE) || !within(what, 0, 1)) {
            return OUTSIDE;
        }
        int struck = war.cheapestRaid(1 - office, n);
        if (struck == NONE) {
            return NONE;
        }
        return what == 0 ? war.raidInk(struck) : struck;
    }

    public int peace(int what) {
        if (!war.isOn()) {
            return STATE;
        }
        if (!within(what, 0, 1)) {
            return OUTSIDE;
        }
        int workers = war.workersOf(0);
        int others = war.workersOf(1);
        int twos = Math.min(Integer.bitCount(workers), Integer.bitCount(others));
        // Anyone may be in a two with anyone of the other office, so each office's dearest are told apart.
        return what == 0 ? twos : war.mostTakes(workers, twos) + war.mostTakes(others, twos);
    }

    // ---- 4 what was seen

    public int reading(int p, int v) {
        if (war.personOf(p) == null) {
            return UNKNOWN;
        }
        if (!within(v, 0, MOST_TAKES)) {
            return OUTSIDE;
        }
        return readings.add(p, v);
    }

    public int back(int k) {
        if (!within(k, 0, readings.count)) {
            return OUTSIDE;
        }
        readings.count -= k;
        return readings.count;
    }

    public int necks(int p) {
        Person who = war.personOf(p);
        return who == null ? UNKNOWN : readings.necksOf(war, p, who);
    }

    public int kinds(int p) {
        Person who = war.personOf(p);
        return who == null ? UNKNOWN : readings.kindsOf(war, p, who);
    }

    public int fits(int sheet, int lane, int i, int n) {
        latestFault = NO_FAULT;
        Sheet told = sheetOf(sheet);
        if (told == null) {
            return UNKNOWN;
        }
        if (!below(lane, LANES) || !within(n, 0, MOST_TOLD)) {
            return OUTSIDE;
        }
        if (!war.isOn()) {
            return STATE;
        }
        int stop = told.faultOf(lane, i, n);
        if (stop != NO_FAULT) {
            return stopped(stop);
        }
        for (int j = i; j < i + n; j++) {
            if (!below(told.at(j), MARKS)) {
                return OUTSIDE;
            }
        }
        return fittingStamps(told, i, n);
    }

    private int fittingStamps(Sheet told, int i, int n) {
        int stamps = 0;
        for (int stamp = 0; stamp < STAMPS; stamp++) {
            boolean fitting = true;
            for (int j = i; j < i + n - 1; j++) {
                fitting = fitting && war.rules.after(told.at(j), stamp) == told.at(j + 1);
            }
            if (fitting) {
                stamps |= 1 << stamp;
            }
        }
        return stamps;
    }

    public long odds(int p, int n, int which) {
        Person who = war.personOf(p);
        if (who == null || !within(n, 0, MOST_STAMPS) || !within(which, 0, 1)) {
            return LOST;
        }
        int upper = war.rules.rowsTo(who.mark, Rules.ALL & ~RESTING_MARKS, n);
        int lower = war.rules.rowsTo(who.mark, Rules.ALL, n);
        // The lower number is a power of the stamps' number, a prime: nothing else divides both.
        for (int j = 0; j < n && upper % STAMPS == 0; j++) {
            upper /= STAMPS;
            lower /= STAMPS;
        }
        return which == 0 ? upper : lower;
    }

    // ---- 5 sheets, parts

    public int sheet(int k, int lane, int n) {
        latestFault = NO_FAULT;
        Sheet row = sheetOf(k);
        if (row == null) {
            return UNKNOWN;
        }
        if (!below(lane, LANES) || n > MOST_CELLS) {
            return OUTSIDE;
        }
        if (n < 0) {
            return stopped(SIZE);
        }
        row.begins(lane, n);
        return 1;
    }

    public int lose(int k) {
        Sheet row = sheetOf(k);
        if (row == null) {
            return UNKNOWN;
        }
        int had = row.hasRow() ? 1 : 0;
        row.loses();
        return had;
    }

    public int put(int k, int i, int v) {
        latestFault = NO_FAULT;
        Sheet row = sheetOf(k);
        if (row == null) {
            return UNKNOWN;
        }
        int stop = row.faultOf(row.lane, i, 1);
        if (stop != NO_FAULT) {
            return stopped(stop);
        }
        row.become(i, v);
        return 1;
    }

    public long cell(int k, int i, int lane) {
        latestFault = NO_FAULT;
        Sheet row = sheetOf(k);
        if (row == null || !below(lane, LANES)) {
            return LOST;
        }
        int stop = row.faultOf(lane, i, 1);
        if (stop != NO_FAULT) {
            latestFault = stop;
            return LOST;
        }
        return row.at(i);
    }

    public int copy(int k, int i, int other, int j, int n) {
        latestFault = NO_FAULT;
        Sheet from = sheetOf(k);
        Sheet to = sheetOf(other);
        if (from == null || to == null) {
            return UNKNOWN;
        }
        if (!from.hasRow() || !to.hasRow()) {
            return stopped(NULL);
        }
        if (from.lane != to.lane) {
            return stopped(CAST);
        }
        if (!from.spans(i, n) || !to.spans(j, n)) {
            return stopped(INDEX);
        }
        System.arraycopy(from.cells, i, to.cells, j, n);
        return n;
    }

    public int tell(int p) {
        Person who = war.personOf(p);
        return who == null ? UNKNOWN : bodies.telling(who);
    }

    public int salute(int p) {
        Person who = war.personOf(p);
        return who == null ? UNKNOWN : bodies.salutes(p, who);
    }

    public int as(int p, int kind) {
        latestFault = NO_FAULT;
        Person who = war.personOf(p);
        if (who == null) {
            return UNKNOWN;
        }
        if (!below(kind, KINDS)) {
            return OUTSIDE;
        }
        return who.kind < kind ? stopped(CAST) : 1;
    }

    public int trace() {
        return bodies.left;
    }

    public int fault() {
        return latestFault;
    }

    public int many(int what) {
        switch (what) {
            case 0: return war.count;
            case 1: return Integer.bitCount(war.workersOf(0) | war.workersOf(1));
            case 2: return strikesDone;
            case 3: return readings.count;
            default: return OUTSIDE;
        }
    }

    // ---- what many calls use

    private static boolean within(int v, int least, int most) {
        return least <= v && v <= most;
    }

    private static boolean below(int v, int bound) {
        return 0 <= v && v < bound;
    }

    private Sheet sheetOf(int k) {
        return below(k, SHEETS) ? sheets[k] : null;
    }

    private int stopped(int fault) {
        latestFault = fault;
        return -10 - fault;
    }

    /** A row of a lane, or nothing; its cells are made once, as a run has little room. */
    private static final class Sheet {
        private static final int NOTHING = -1;

        final int[] cells = new int[MOST_CELLS];
        int lane = NOTHING;
        int size;

        boolean hasRow() {
            return lane != NOTHING;
        }

        void begins(int newLane, int n) {
            Arrays.fill(cells, 0);
            lane = newLane;
            size = n;
        }

        void loses() {
            lane = NOTHING;
            size = 0;
        }

        boolean spans(int i, int n) {
            // n is held against what is left, as i + n could wrap.
            return within(i, 0, size) && within(n, 0, size - i);
        }

        /** The fault that n cells from i on come to, taken as cells of a lane. */
        int faultOf(int asLane, int i, int n) {
            if (!hasRow()) {
                return NULL;
            }
            if (lane != asLane) {
                return CAST;
            }
            if (n < 0) {
                return SIZE;
            }
            return spans(i, n) ? NO_FAULT : INDEX;
        }

        int at(int i) {
            return cells[i];
        }

        void become(int i, int v) {
            if (lane == BYTES) {
                cells[i] = (byte) v;
            } else if (lane == SHORTS) {
                cells[i] = (short) v;
            } else {
                cells[i] = v;
            }
        }
    }

    /** Where in a text what stands. */
    private static final class Text {
        private static final int INKS = 1, RULES = 5, PEOPLE = 17, PERSON = 5;
        private static final int LETTER = 1, OFFICE = 2, MARK = 3, NECK = 4;

        /** The place of the first fault; NONE: it is a text. */
        static int firstFault(Sheet row, int i, int n) {
            for (int place = 0; place < n; place++) {
                if (!goesOn(place, row.at(i + place))) {
                    return place;
                }
            }
            boolean whole = n >= PEOPLE + FEWEST_PEOPLE * PERSON && (n - PEOPLE) % PERSON == 0;
            return whole ? NONE : n;
        }

        static int peopleIn(int n) {
            return (n - PEOPLE) / PERSON;
        }

        private static boolean goesOn(int place, int code) {
            if (place == 0) {
                return code == 'w';
            }
            if (place < RULES) {
                return isDigit(code, 9);
            }
            if (place < PEOPLE) {
                return isDigit(code, MARKS - 1);
            }
            return peopleIn(place) < MOST_PEOPLE && goesOnPerson((place - PEOPLE) % PERSON, code);
        }

        private static boolean goesOnPerson(int place, int code) {
            switch (place) {
                case LETTER: return kindOf(code) != NONE;
                case OFFICE: return isDigit(code, OFFICES - 1);
                case MARK: return isDigit(code, MARKS - 1);
                case NECK: return isDigit(code, MOST_NECK);
                default: return code == ';';
            }
        }

        private static boolean isDigit(int code, int most) {
            return within(code, '0', '0' + most);
        }

        private static int kindOf(int code) {
            switch (code) {
                case 'p': return PLAIN;
                case 'c': return CLERK;
                case 'g': return GENERAL;
                default: return NONE;
            }
        }

        private static int digit(Sheet row, int i) {
            return row.at(i) - '0';
        }

        static int inkOf(Sheet row, int i, int office) {
            int place = i + INKS + 2 * office;
            return 10 * digit(row, place) + digit(row, place + 1);
        }

        static int ruleOf(Sheet row, int i, int mark, int stamp) {
            return digit(row, i + RULES + mark * STAMPS + stamp);
        }

        static void readPerson(Sheet row, int i, int p, Person who) {
            int place = i + PEOPLE + p * PERSON;
            who.kind = kindOf(row.at(place + LETTER));
            who.office = digit(row, place + OFFICE);
            who.mark = digit(row, place + MARK);
            who.neck = digit(row, place + NECK);
        }
    }

    private static final class Person {
        int kind;
        int office;
        int mark;
        int neck;

        void becomes(Person other) {
            kind = other.kind;
            office = other.office;
            mark = other.mark;
            neck = other.neck;
        }

        int takes() {
            if (kind == PLAIN) {
                return neck;
            }
            return kind == CLERK ? neck + 1 : 2 * (neck + 1);
        }

        boolean isAtWork() {
            return (RESTING_MARKS >> mark & 1) == 0;
        }
    }

    /** What marks become. */
    private static final class Rules {
        static final int FAR = MARKS, ALL = (1 << MARKS) - 1;

        private final int[] next = new int[MARKS * STAMPS];
        private final int[] rows = new int[MARKS];
        private final int[] longerRows = new int[MARKS];

        void becomes(Rules other) {
            System.arraycopy(other.next, 0, next, 0, next.length);
        }

        int after(int mark, int stamp) {
            return next[mark * STAMPS + stamp];
        }

        void become(int mark, int stamp, int v) {
            next[mark * STAMPS + stamp] = v;
        }

        /** How few stamps make a mark one of a set of marks; FAR: none do. */
        int fewest(int from, int marks) {
            int reached = 1 << from;
            for (int many = 0; many < FAR; many++) {
                if ((reached & marks) != 0) {
                    return many;
                }
                reached = allAfter(reached);
            }
            return FAR;
        }

        private int allAfter(int marks) {
            int reached = 0;
            for (int mark = 0; mark < MARKS; mark++) {
                for (int stamp = 0; stamp < STAMPS && (marks >> mark & 1) == 1; stamp++) {
                    reached |= 1 << after(mark, stamp);
                }
            }
            return reached;
        }

        /** Stamp k of the first of the shortest rows; there must be one so long. */
        int stampOnWay(int from, int to, int k) {
            int at = from;
            for (int j = 0; j < k; j++) {
                at = after(at, nearestStamp(at, to));
            }
            return nearestStamp(at, to);
        }

        private int nearestStamp(int at, int to) {
            int nearest = 0;
            for (int stamp = 1; stamp < STAMPS; stamp++) {
                if (fewest(after(at, stamp), 1 << to) < fewest(after(at, nearest), 1 << to)) {
                    nearest = stamp;
                }
            }
            return nearest;
        }

        /** How many rows of n stamps make a mark one of a set of marks. */
        int rowsTo(int from, int marks, int n) {
            Arrays.fill(rows, 0);
            rows[from] = 1;
            for (int j = 0; j < n; j++) {
                lengthenRows();
            }
            int sum = 0;
            for (int mark = 0; mark < MARKS; mark++) {
                sum += (marks >> mark & 1) * rows[mark];
            }
            return sum;
        }

        private void lengthenRows() {
            Arrays.fill(longerRows, 0);
            for (int mark = 0; mark < MARKS; mark++) {
                for (int stamp = 0; stamp < STAMPS; stamp++) {
                    longerRows[after(mark, stamp)] += rows[mark];
                }
            }
            System.arraycopy(longerRows, 0, rows, 0, MARKS);
        }

        int struck(int mark, int stamp, int often) {
            int at = mark;
            for (int j = 0; j < often; j++) {
                at = after(at, stamp);
            }
            return at;
        }

        /** By how many strikes a mark becomes itself again; 0: it never does. */
        int comesBackBy(int mark, int stamp) {
            for (int often = 1; often <= MARKS; often++) {
                if (struck(mark, stamp, often) == mark) {
                    return often;
                }
            }
            return 0;
        }

        int strikesAhead(int mark, int stamp) {
            int ahead = 0;
            while (ahead < MARKS && comesBackBy(struck(mark, stamp, ahead), stamp) == 0) {
                ahead++;
            }
            return ahead;
        }
    }

    /** What a text makes: two inks, rules, people. */
    private static final class War {
        final int[] inks = new int[OFFICES];
        final Rules rules = new Rules();
        private final Person[] people = new Person[MOST_PEOPLE];
        int count;

        War() {
            for (int p = 0; p < MOST_PEOPLE; p++) {
                people[p] = new Person();
            }
        }

        boolean isOn() {
            return count > 0;
        }

        Person personOf(int p) {
            return below(p, count) ? people[p] : null;
        }

        void begins(Sheet text, int i, int peopleTold) {
            for (int office = 0; office < OFFICES; office++) {
                inks[office] = Text.inkOf(text, i, office);
            }
            for (int mark = 0; mark < MARKS; mark++) {
                for (int stamp = 0; stamp < STAMPS; stamp++) {
                    rules.become(mark, stamp, Text.ruleOf(text, i, mark, stamp));
                }
            }
            count = peopleTold;
            for (int p = 0; p < count; p++) {
                Text.readPerson(text, i, p, people[p]);
            }
        }

        void becomes(War other) {
            System.arraycopy(other.inks, 0, inks, 0, OFFICES);
            rules.becomes(other.rules);
            count = other.count;
            for (int p = 0; p < count; p++) {
                people[p].becomes(other.people[p]);
            }
        }

        int peopleOf(int office) {
            int set = 0;
            for (int p = 0; p < count; p++) {
                if (people[p].office == office) {
                    set |= 1 << p;
                }
            }
            return set;
        }

        int workersOf(int office) {
            int set = peopleOf(office);
            for (int p = 0; p < count; p++) {
                if (!people[p].isAtWork()) {
                    set &= ~(1 << p);
                }
            }
            return set;
        }

        /** Whether there was ink for it; if not, nothing is changed. */
        boolean strikes(Person who, int stamp) {
            int striker = 1 - who.office;
            if (inks[striker] < who.takes()) {
                return false;
            }
            inks[striker] -= who.takes();
            who.mark = rules.after(who.mark, stamp);
            return true;
        }

        /** Whether there was ink for it; if not, nothing is changed. */
        boolean washes(Person who) {
            if (inks[who.office] == 0) {
                return false;
            }
            inks[who.office]--;
            who.mark = 0;
            return true;
        }

        /** Who of an office is struck, so that no more than n of it are at work; NONE: it can't be. */
        int cheapestRaid(int raided, int n) {
            int workers = workersOf(raided);
            int able = removable(workers);
            int best = NONE;
            int bestInk = 0;
            for (int set = 0; set < SETS; set++) {
                if ((set & ~able) == 0 && Integer.bitCount(workers & ~set) <= n) {
                    int ink = raidInk(set);
                    // The least of several as cheap is the one that comes first.
                    if (best == NONE || ink < bestInk) {
                        best = set;
                        bestInk = ink;
                    }
                }
            }
            return best;
        }

        private int removable(int workers) {
            int set = workers;
            for (int p = 0; p < count; p++) {
                if (rules.fewest(people[p].mark, RESTING_MARKS) == Rules.FAR) {
                    set &= ~(1 << p);
                }
            }
            return set;
        }

        int raidInk(int struck) {
            int ink = 0;
            for (int p = 0; p < count; p++) {
                int often = rules.fewest(people[p].mark, RESTING_MARKS);
                ink += (struck >> p & 1) * often * people[p].takes();
            }
            return ink;
        }

        /** The most that so many of a set take together. */
        int mostTakes(int set, int many) {
            int most = 0;
            for (int part = 0; part < SETS; part++) {
                if ((part & ~set) == 0 && Integer.bitCount(part) == many) {
                    most = Math.max(most, takesOf(part));
                }
            }
            return most;
        }

        private int takesOf(int set) {
            int sum = 0;
            for (int p = 0; p < count; p++) {
                sum += (set >> p & 1) * people[p].takes();
            }
            return sum;
        }
    }

    /** A night passes in a war of its own, as nothing of the told one may change. */
    private static final class Night {
        private final War after = new War();
        private int firstWrong;
        private int changes;
        private int leads;

        void passes(War now, Sheet told, int i, int n) {
            after.becomes(now);
            firstWrong = NONE;
            changes = 0;
            leads = 0;
            for (int pair = 0; pair < n && firstWrong == NONE; pair++) {
                Person who = after.personOf(told.at(i + 2 * pair));
                if (who == null || !acts(who, told.at(i + 2 * pair + 1))) {
                    firstWrong = pair;
                } else if (isLed()) {
                    leads++;
                }
            }
        }

        private boolean acts(Person who, int act) {
            if (act == WASHING) {
                return after.washes(who);
            }
            int was = who.mark;
            if (!after.strikes(who, act)) {
                return false;
            }
            if (who.mark != was) {
                changes++;
            }
            return true;
        }

        private boolean isLed() {
            return Integer.bitCount(after.workersOf(0)) > Integer.bitCount(after.workersOf(1));
        }

        int answer(int what) {
            if (what == 1) {
                return firstWrong;
            }
            if (firstWrong != NONE) {
                return -100 - firstWrong;
            }
            switch (what) {
                case 0: return after.inks[0] + after.inks[1];
                case 2: return after.workersOf(0) | after.workersOf(1);
                case 3: return changes;
                case 4: return leads;
                default: return markOf(what - NIGHT_MARKS);
            }
        }

        private int markOf(int p) {
            Person who = after.personOf(p);
            return who == null ? NONE : who.mark;
        }
    }

    /** What was seen: who takes how much. */
    private static final class Readings {
        private final int[] people = new int[MOST_READINGS];
        private final int[] takes = new int[MOST_READINGS];
        private final Person instead = new Person();
        int count;

        void clear() {
            count = 0;
        }

        int add(int p, int v) {
            if (count >= MOST_READINGS) {
                return FULL;
            }
            people[count] = p;
            takes[count] = v;
            count++;
            return count - 1;
        }

        int necksOf(War war, int p, Person who) {
            int set = 0;
            instead.becomes(who);
            for (int neck = 0; neck <= MOST_NECK; neck++) {
                instead.neck = neck;
                set |= areSoWithout(war, p) ? 1 << neck : 0;
            }
            return set;
        }

        int kindsOf(War war, int p, Person who) {
            int set = 0;
            instead.becomes(who);
            for (int kind = 0; kind < KINDS; kind++) {
                instead.kind = kind;
                set |= areSoWithout(war, p) ? 1 << kind : 0;
            }
            return set;
        }

        /** Whether all readings are so, with the one instead of a person. */
        private boolean areSoWithout(War war, int p) {
            for (int k = 0; k < count; k++) {
                Person who = people[k] == p ? instead : war.personOf(people[k]);
                if (who == null || who.takes() != takes[k]) {
                    return false;
                }
            }
            return true;
        }
    }

    /** Bodies that leave their numbers as they begin. */
    private static final class Bodies {
        private static final int LENT = 4, GENERALS_OWN = 5;

        int left;

        private void leaves(int number) {
            left = 31 * left + number;
        }

        int telling(Person who) {
            switch (who.kind) {
                case PLAIN: return plainTelling(who);
                case CLERK: return clerkTelling(who);
                default: return generalTelling(who);
            }
        }

        private int plainTelling(Person who) {
            leaves(1);
            return who.neck;
        }

        private int clerkTelling(Person who) {
            leaves(2);
            return plainTelling(who) + 100;
        }

        private int generalTelling(Person who) {
            leaves(3);
            return clerkTelling(who) + plainTelling(who);
        }

        int salutes(int p, Person who) {
            if (who.kind == GENERAL) {
                leaves(GENERALS_OWN);
                return 80;
            }
            leaves(LENT);
            return p;
        }
    }
}
