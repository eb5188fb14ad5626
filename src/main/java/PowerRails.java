import java.util.Arrays;

/** Power rails that come up when others are good: told by a text, run tick by tick, and reckoned ahead. */
public final class PowerRails {
    public static final int BAD = -1, STATE = -2, FULL = -3, NONE = -4, SPENT = -6;

    private static final int RAILS = 8;
    private static final int KEY = 256;
    /** Answers that could be mistaken for a number of ticks have a refusal of their own. */
    private static final int NOW_BAD = -9;
    private static final int AHEAD = -1000;
    private static final int FAULT_BASE = -10;
    private static final int CELL_BASE = -20;
    private static final int LIST_BASE = 10;

    private final Tape tape;
    private final Reader reader;
    private final Run run;
    private final Course course;
    private final Ways ways;
    private final Stagger staggering;
    private final Sheets sheets;
    private Plan plan;
    private Plan spare;
    private int latestFault;

    public PowerRails() {
        tape = new Tape();
        run = new Run();
        course = new Course();
        ways = new Ways(course);
        staggering = new Stagger(course);
        sheets = new Sheets();
        plan = new Plan();
        spare = new Plan();
        reader = new Reader(tape, spare);
        latestFault = 0;
    }

    // ---- the text

    public int feed(long v) {
        return tape.push(v) ? tape.length : FULL;
    }

    public int end(int n) {
        if (n < 0 || n > tape.length) {
            return BAD;
        }
        int had = tape.length;
        tape.length = n;
        return had;
    }

    public int text() {
        // The text is read into the spare plan, so that a refused one leaves what was told as it was.
        int lines = reader.readText(spare);
        tape.length = 0;
        latestFault = reader.fault;
        if (reader.fault != 0) {
            return FAULT_BASE - reader.faultPlace;
        }
        Plan before = plan;
        plan = spare;
        spare = before;
        run.reset(plan);
        forgetReckoned();
        return lines;
    }

    public int fault() {
        return latestFault;
    }

    public int rail(int r, int what) {
        if (!plan.hasRail(r) || what < 0 || what > Plan.PARTS) {
            return BAD;
        }
        return plan.number(r, what);
    }

    public int rule(int what) {
        switch (what) {
            case 0:
                return plan.limit;
            case 1:
                return plan.retry;
            case 2:
                return plan.behind;
            case 3:
                return plan.rails;
            default:
                return BAD;
        }
    }

    public int holds(int r, int good) {
        if (!plan.hasRail(r) || (good & ~(plan.allRails() | KEY)) != 0) {
            return BAD;
        }
        return asNumber(plan.holdsWith(r, good));
    }

    public int words(int r, int what) {
        if (!plan.hasRail(r) || (what != 0 && what < LIST_BASE)) {
            return BAD;
        }
        if (what == 0) {
            return plan.countLeastSets(r);
        }
        return plan.leastSet(r, what - LIST_BASE);
    }

    // ---- as it goes

    public int key(boolean on) {
        int before = asNumber(run.key);
        run.turnKey(plan, on);
        return before;
    }

    public int dead(int r, boolean is) {
        if (!plan.hasRail(r)) {
            return BAD;
        }
        int bit = 1 << r;
        int before = asNumber((run.dead & bit) != 0);
        run.dead = is ? run.dead | bit : run.dead & ~bit;
        forgetReckoned();
        return before;
    }

    public int time(int r, int v) {
        if (!plan.hasRail(r) || v < plan.number(r, Plan.LEAST) || v > plan.number(r, Plan.MOST)) {
            return BAD;
        }
        int before = run.takes[r];
        run.takes[r] = v;
        forgetReckoned();
        return before;
    }

    public int go(int n) {
        if (n < 1 || n > 999) {
            return BAD;
        }
        int before = run.trips;
        for (int i = 0; i < n; i++) {
            run.passTick(plan);
        }
        return run.trips - before;
    }

    public int now(int what) {
        switch (what) {
            case 0:
                return run.tick;
            case 1:
                return run.railsThatAre(Run.GOOD);
            case 2:
                return run.railsThatAre(Run.RISES);
            case 3:
                return run.latestDraw;
            case 4:
                return run.held;
            case 5:
                return run.tries;
            case 6:
                return run.greatestDraw;
            case 7:
                return asNumber(run.key);
            case 8:
                return run.trips;
            default:
                return NOW_BAD;
        }
    }

    public int is(int r, int what) {
        if (!plan.hasRail(r)) {
            return BAD;
        }
        switch (what) {
            case 0:
                return run.states[r];
            case 1:
                return run.since[r];
            case 2:
                return (run.dead >> r) & 1;
            case 3:
                return run.takes[r];
            case 4:
                return run.timesGood[r];
            default:
                return BAD;
        }
    }

    public int happened(int i, int what) {
        if (i < 0 || i >= run.history.size) {
            return BAD;
        }
        switch (what) {
            case 0:
                return run.history.ticks[i];
            case 1:
                return run.history.who[i];
            case 2:
                return run.history.became[i];
            default:
                return BAD;
        }
    }

    // ---- what is sure

    public int up(int what) {
        int all = plan.allRails();
        int alive = all & ~run.dead;
        switch (what) {
            case 0:
                return plan.upAmong(alive);
            case 1:
                return alive & ~plan.upAmong(alive);
            case 2:
                return all & ~plan.upAmong(all);
            default:
                return BAD;
        }
    }

    public int when(int r, int what) {
        if (!plan.hasRail(r) || what < 0 || what > 2) {
            return BAD;
        }
        if (what == 0) {
            followTimes();
        } else {
            course.setWaits(plan);
            course.setTakes(plan, what == 1 ? Plan.LEAST : Plan.MOST);
            course.follow(plan, alive());
        }
        return course.isUp(r) ? course.goodAt[r] : NONE;
    }

    public int ahead(int a, int b, int what) {
        if (!plan.hasRail(a) || !plan.hasRail(b) || a == b || what < 0 || what > 1) {
            return AHEAD;
        }
        if (plan.countWays() > Ways.MOST_WAYS) {
            return AHEAD + STATE;
        }
        int both = (1 << a) | (1 << b);
        if ((plan.upAmong(alive()) & both) != both) {
            return AHEAD + NONE;
        }
        int most = ways.mostBehind(plan, alive(), a, b);
        if (what == 1) {
            return most;
        }
        return most < 0 ? 2 : most == 0 ? 1 : 0;
    }

    public int drawn(int tick) {
        if (tick < 0 || tick > 999) {
            return BAD;
        }
        followTimes();
        return course.drawnAt(plan, tick);
    }

    public int peak(int what) {
        if (what < 0 || what > 3) {
            return BAD;
        }
        if (what >= 2 && plan.countWays() > Ways.MOST_WAYS) {
            return STATE;
        }
        if (plan.upAmong(alive()) == 0) {
            return NONE;
        }
        if (what >= 2) {
            ways.findPeaks(plan, alive());
            return what == 2 ? ways.greatestPeak : ways.leastPeak;
        }
        followTimes();
        course.findPeak(plan);
        return what == 0 ? course.peak : course.peakTick;
    }

    public int stagger(int what) {
        if (what != 0 && (what < LIST_BASE || what >= LIST_BASE + plan.rails)) {
            return BAD;
        }
        if (plan.rails > Stagger.MOST_RAILS) {
            return STATE;
        }
        staggering.findRow(plan, alive(), run.takes);
        if (what == 0 || staggering.last == NONE) {
            return staggering.last;
        }
        return staggering.row[what - LIST_BASE];
    }

    public int adopt() {
        if (plan.rails > Stagger.MOST_RAILS) {
            return STATE;
        }
        staggering.findRow(plan, alive(), run.takes);
        int last = staggering.last;
        if (last != NONE) {
            plan.setWaits(staggering.row);
            forgetReckoned();
        }
        return last;
    }

    // ---- what dies

    public int down(int some) {
        if ((some & ~plan.allRails()) != 0) {
            return BAD;
        }
        return plan.upAmong(alive()) & ~plan.upAmong(alive() & ~some);
    }

    public int cut(int r, int what) {
        if (!plan.hasRail(r) || what < 0 || what > 1) {
            return BAD;
        }
        if (!canBeUp(r)) {
            return STATE;
        }
        int set = Deaths.fewestThatCut(plan, alive(), r);
        if (set == 0) {
            return NONE;
        }
        return what == 0 ? Integer.bitCount(set) : set;
    }

    public int need(int r, int what) {
        if (!plan.hasRail(r) || what < 0 || what > 1) {
            return BAD;
        }
        if (!canBeUp(r)) {
            return STATE;
        }
        int set = Deaths.fewestThatDo(plan, alive(), r);
        return what == 0 ? Integer.bitCount(set) : set;
    }

    public int must(int r) {
        if (!plan.hasRail(r)) {
            return BAD;
        }
        if (!canBeUp(r)) {
            return STATE;
        }
        return Deaths.neverWithout(plan, alive(), r);
    }

    public int seen(int good) {
        if ((good & ~plan.allRails()) != 0) {
            return BAD;
        }
        return Deaths.thatExplain(plan, good);
    }

    // ---- sheets

    public int sheet(int k, int lane, int n) {
        if (!Sheets.hasPlace(k) || !Sheets.isLane(lane) || n > Sheets.CELLS) {
            return BAD;
        }
        if (n < 0) {
            return FAULT_BASE - Sheets.SIZE_FAULT;
        }
        sheets.renew(k, lane, n);
        return 1;
    }

    public int lay(int k, int i, int v) {
        if (!Sheets.hasPlace(k)) {
            return BAD;
        }
        if (sheets.sizes[k] == NONE) {
            return FAULT_BASE - Sheets.NULL_FAULT;
        }
        if (i < 0 || i >= sheets.sizes[k]) {
            return FAULT_BASE - Sheets.INDEX_FAULT;
        }
        sheets.put(k, i, v);
        return 1;
    }

    public int measured(int k, int lane, int f, int n, int what) {
        if (!Sheets.hasPlace(k) || !Sheets.isLane(lane)) {
            return BAD;
        }
        if (n < 0 || n > Sheets.CELLS || what < 0 || what > 2) {
            return BAD;
        }
        if (sheets.sizes[k] == NONE) {
            return FAULT_BASE - Sheets.NULL_FAULT;
        }
        if (sheets.lanes[k] != lane) {
            return FAULT_BASE - Sheets.CAST_FAULT;
        }
        followTimes();
        return compareSheet(k, f, n, what);
    }

    public int count(int what) {
        switch (what) {
            case 0:
                return plan.rails;
            case 1:
                return Integer.bitCount(run.dead);
            case 2:
                return run.history.size;
            case 3:
                return plan.countWays() > Ways.MOST_WAYS ? SPENT : plan.countWays();
            case 4:
                return tape.length;
            case 5:
                return sheets.sizes[0];
            default:
                return BAD;
        }
    }

    private static int asNumber(boolean yes) {
        return yes ? 1 : 0;
    }

    private int alive() {
        return plan.allRails() & ~run.dead;
    }

    private boolean canBeUp(int r) {
        return ((plan.upAmong(alive()) >> r) & 1) == 1;
    }

    private void followTimes() {
        course.setWaits(plan);
        course.copyTakes(run.takes);
        course.follow(plan, alive());
    }

    /** The dear answers are kept between calls; whatever they rest on calls this when it changes. */
    private void forgetReckoned() {
        ways.forget();
        staggering.known = false;
    }

    private int compareSheet(int k, int f, int n, int what) {
        int same = 0;
        int firstOther = NONE;
        int apart = 0;
        for (int t = 0; t < n; t++) {
            int i = f + t;
            if (i < 0 || i >= sheets.sizes[k]) {
                return FAULT_BASE - Sheets.INDEX_FAULT;
            }
            int cell = sheets.cells[k][i];
            if (cell < 0 || cell > Sheets.MOST_MEASURED) {
                return CELL_BASE - t;
            }
            int gap = Math.abs(cell - course.drawnAt(plan, t));
            apart += gap;
            if (gap == 0) {
                same++;
            } else if (firstOther == NONE) {
                firstOther = t;
            }
        }
        return what == 0 ? same : what == 1 ? firstOther : apart;
    }

    /** The bytes that were fed and not yet read. */
    private static final class Tape {
        static final int ROOM = 400;

        final int[] bytes;
        int length;

        Tape() {
            bytes = new int[ROOM];
            length = 0;
        }

        boolean push(long v) {
            if (length + 8 > ROOM) {
                return false;
            }
            for (int shift = 56; shift >= 0; shift -= 8) {
                bytes[length] = (int) (v >>> shift) & 255;
                length++;
            }
            return true;
        }
    }

    /** What a text tells: the numbers of each rail, its formula, and the rules for all. */
    private static final class Plan {
        static final int LEAST = 0, MOST = 1, FALL = 2, DRAW = 3, RISING_DRAW = 4, WAIT = 5, WITHIN = 6, PARTS = 7;
        static final int NUMBERS = 8;
        /** A formula is kept as one bit for each of the 512 sets of rails and key: it holds or not. */
        static final int TABLE = 8;
        static final int SETS = 512;

        final int[] numbers;
        final long[] tables;
        int rails;
        int limit;
        int retry;
        int behind;

        Plan() {
            numbers = new int[RAILS * NUMBERS];
            tables = new long[RAILS * TABLE];
            rails = 0;
            limit = 999;
            retry = 0;
            behind = 5;
        }

        void reset() {
            rails = 0;
            limit = 999;
            retry = 0;
            behind = 5;
        }

        /** A rail of which nothing more is told than how long it takes to rise, which comes next. */
        void addRail() {
            setNumber(rails, FALL, 1);
            setNumber(rails, DRAW, 1);
            setNumber(rails, RISING_DRAW, 2);
            setNumber(rails, WAIT, 0);
            setNumber(rails, WITHIN, 0);
            setNumber(rails, PARTS, KEY);
            for (int w = 0; w < TABLE; w++) {
                // The key's bit is the highest of a set, so it holds in the upper half of the words.
                tables[rails * TABLE + w] = w >= TABLE / 2 ? -1L : 0L;
            }
            rails++;
        }

        boolean hasRail(int r) {
            return r >= 0 && r < rails;
        }

        int allRails() {
            return (1 << rails) - 1;
        }

        int number(int r, int what) {
            return numbers[r * NUMBERS + what];
        }

        void setNumber(int r, int what, int v) {
            numbers[r * NUMBERS + what] = v;
        }

        void setWaits(int[] row) {
            for (int r = 0; r < rails; r++) {
                setNumber(r, WAIT, row[r]);
            }
        }

        boolean holdsWith(int r, int set) {
            return ((tables[r * TABLE + ((set >> 6) & 7)] >>> (set & 63)) & 1L) != 0;
        }

        boolean isLeastSet(int r, int set) {
            if (!holdsWith(r, set)) {
                return false;
            }
            // There is no "not" in formulas, so leaving out one at a time tells of all lesser sets.
            for (int part = 0; part <= RAILS; part++) {
                if (((set >> part) & 1) == 1 && holdsWith(r, set & ~(1 << part))) {
                    return false;
                }
            }
            return true;
        }

        int countLeastSets(int r) {
            int found = 0;
            for (int set = 0; set < SETS; set++) {
                if (isLeastSet(r, set)) {
                    found++;
                }
            }
            return found;
        }

        int leastSet(int r, int i) {
            int found = 0;
            for (int set = 0; set < SETS; set++) {
                if (isLeastSet(r, set)) {
                    if (found == i) {
                        return set;
                    }
                    found++;
                }
            }
            return BAD;
        }

        int upAmong(int alive) {
            int good = 0;
            // Each round but the last adds a rail.
            for (int round = 0; round <= RAILS; round++) {
                int next = good;
                for (int r = 0; r < rails; r++) {
                    if (((alive >> r) & 1) == 1 && holdsWith(r, good | KEY)) {
                        next |= 1 << r;
                    }
                }
                if (next == good) {
                    break;
                }
                good = next;
            }
            return good;
        }

        /** At most 9 to the power 8, which an int holds. */
        int countWays() {
            int product = 1;
            for (int r = 0; r < rails; r++) {
                product *= number(r, MOST) - number(r, LEAST) + 1;
            }
            return product;
        }

        /** The rails that bear, at however many removes, on the formulas of some. */
        int sourcesOf(int some) {
            int all = some;
            for (int round = 0; round < RAILS; round++) {
                for (int r = 0; r < rails; r++) {
                    if (((all >> r) & 1) == 1) {
                        all |= number(r, PARTS) & allRails();
                    }
                }
            }
            return all;
        }
    }

    /** Reads a text token by token; a token is read only when the one before has been taken. */
    private static final class Reader {
        static final int END = 0, NAME = 1, NUMBER = 2, SIGN = 3;
        static final int NO_TOKEN = 1, MISPLACED = 2, OUT_OF_BOUNDS = 3, TWICE = 4, TOO_MANY = 5, NOT_TOLD = 6;
        static final int MOST_DEEP = 6;
        static final int MOST_FIGURES = 3;
        static final int LIMIT_TOLD = 1, RETRY_TOLD = 2, RULES_TOLD = 3;
        static final int FALL_TOLD = 4, DRAW_TOLD = 8, WAIT_TOLD = 16, WITHIN_TOLD = 32;
        static final int WITHS = 4;
        /** Where each of the first six is in a word of 64 sets; those behind are in all of a word or in none. */
        static final long[] IN_WORD = {
            0xAAAAAAAAAAAAAAAAL, 0xCCCCCCCCCCCCCCCCL, 0xF0F0F0F0F0F0F0F0L,
            0xFF00FF00FF00FF00L, 0xFFFF0000FFFF0000L, 0xFFFFFFFF00000000L};

        final Tape tape;
        final int[] firstUse;
        /** For each depth of brackets: what stands ahead of the latest |, and what stands behind it. */
        final long[][] any;
        final long[][] all;
        Plan plan;
        int place;
        int kind;
        int from;
        int value;
        int told;
        int depth;
        int fault;
        int faultPlace;

        Reader(Tape source, Plan target) {
            tape = source;
            plan = target;
            firstUse = new int[RAILS];
            any = new long[MOST_DEEP + 1][Plan.TABLE];
            all = new long[MOST_DEEP + 1][Plan.TABLE];
        }

        int readText(Plan target) {
            plan = target;
            plan.reset();
            place = 0;
            told = 0;
            fault = 0;
            faultPlace = 0;
            Arrays.fill(firstUse, NONE);
            step();
            int lines = 0;
            for (int i = 0; i < Tape.ROOM && fault == 0 && kind != END; i++) {
                if (isWord("rail")) {
                    readRail();
                } else {
                    readRule();
                }
                takeSign(';');
                lines++;
            }
            findNotTold();
            return lines;
        }

        /** Only the first fault counts; whatever is read behind it takes no more tokens. */
        void refuse(int which, int at) {
            if (fault == 0) {
                fault = which;
                faultPlace = at;
            }
        }

        void step() {
            while (place < tape.length && tape.bytes[place] == ' ') {
                place++;
            }
            from = place;
            value = 0;
            if (place >= tape.length) {
                kind = END;
                return;
            }
            int sign = tape.bytes[place];
            if (sign >= 'a' && sign <= 'z') {
                kind = NAME;
                skipWithin('a', 'z');
            } else if (sign >= '0' && sign <= '9') {
                kind = NUMBER;
                skipWithin('0', '9');
                valueNumber();
            } else if (sign == '(' || sign == ')' || sign == '&' || sign == '|' || sign == ';') {
                kind = SIGN;
                value = sign;
                place++;
            } else {
                refuse(NO_TOKEN, from);
            }
        }

        void skipWithin(int low, int high) {
            while (place < tape.length && tape.bytes[place] >= low && tape.bytes[place] <= high) {
                place++;
            }
        }

        void valueNumber() {
            if (place - from > MOST_FIGURES) {
                refuse(NO_TOKEN, from);
                return;
            }
            for (int i = from; i < place; i++) {
                value = value * 10 + tape.bytes[i] - '0';
            }
        }

        boolean isWord(String word) {
            if (kind != NAME || place - from != word.length()) {
                return false;
            }
            for (int i = 0; i < word.length(); i++) {
                if (tape.bytes[from + i] != word.charAt(i)) {
                    return false;
                }
            }
            return true;
        }

        boolean isSign(int sign) {
            return kind == SIGN && value == sign;
        }

        /** The rail that a name means; NONE if it means none. */
        int railNamed() {
            if (place - from != 1) {
                return NONE;
            }
            int r = tape.bytes[from] - 'a';
            return r >= 0 && r < RAILS ? r : NONE;
        }

        void takeSign(int sign) {
            if (fault != 0) {
                return;
            }
            if (isSign(sign)) {
                step();
            } else {
                refuse(MISPLACED, from);
            }
        }

        int takeNumber(int low, int high) {
            if (fault != 0) {
                return low;
            }
            if (kind != NUMBER) {
                refuse(MISPLACED, from);
                return low;
            }
            if (value < low || value > high) {
                refuse(OUT_OF_BOUNDS, from);
                return low;
            }
            int taken = value;
            step();
            return taken;
        }

        void takeOnce(int bit) {
            if ((told & bit) != 0) {
                refuse(TWICE, from);
                return;
            }
            told |= bit;
            step();
        }

        void takeTurn(int r) {
            if (fault != 0) {
                return;
            }
            if (kind != NAME) {
                refuse(MISPLACED, from);
            } else if (railNamed() != r) {
                refuse(OUT_OF_BOUNDS, from);
            } else {
                step();
            }
        }

        void readRule() {
            if (isWord("limit")) {
                takeOnce(LIMIT_TOLD);
                plan.limit = takeNumber(1, 999);
            } else if (isWord("retry")) {
                takeOnce(RETRY_TOLD);
                plan.retry = takeNumber(0, 9);
                plan.behind = takeNumber(1, 99);
            } else {
                refuse(MISPLACED, from);
            }
        }

        void readRail() {
            if (plan.rails >= RAILS) {
                refuse(TOO_MANY, from);
                return;
            }
            int r = plan.rails;
            plan.addRail();
            step();
            takeTurn(r);
            int least = takeNumber(1, 9);
            plan.setNumber(r, Plan.LEAST, least);
            plan.setNumber(r, Plan.MOST, takeNumber(least, 9));
            told &= RULES_TOLD;
            // One round more than there are withs: that one is told twice, or is none.
            for (int i = 0; i <= WITHS && fault == 0 && kind == NAME && !isWord("when"); i++) {
                readWith(r);
            }
            if (fault == 0 && isWord("when")) {
                step();
                plan.setNumber(r, Plan.PARTS, 0);
                readFormula(r);
            }
        }

        void readWith(int r) {
            if (isWord("fall")) {
                takeOnce(FALL_TOLD);
                plan.setNumber(r, Plan.FALL, takeNumber(0, 9));
            } else if (isWord("draw")) {
                takeOnce(DRAW_TOLD);
                plan.setNumber(r, Plan.DRAW, takeNumber(0, 99));
                plan.setNumber(r, Plan.RISING_DRAW, takeNumber(0, 99));
            } else if (isWord("wait")) {
                takeOnce(WAIT_TOLD);
                plan.setNumber(r, Plan.WAIT, takeNumber(0, 9));
            } else if (isWord("within")) {
                takeOnce(WITHIN_TOLD);
                plan.setNumber(r, Plan.WITHIN, takeNumber(1, 99));
            } else {
                refuse(MISPLACED, from);
            }
        }

        /** Each round takes one token, or finds the one behind the formula. */
        void readFormula(int r) {
            openDepth(0);
            boolean wantsUnit = true;
            boolean more = true;
            for (int i = 0; i <= Tape.ROOM && fault == 0 && more; i++) {
                if (wantsUnit) {
                    wantsUnit = takeUnit(r);
                } else if (isSign('&')) {
                    wantsUnit = true;
                    step();
                } else if (isSign('|')) {
                    joinAny();
                    wantsUnit = true;
                    step();
                } else if (isSign(')') && depth > 0) {
                    closeDepth();
                    step();
                } else {
                    more = false;
                }
            }
            if (fault == 0 && depth > 0) {
                refuse(MISPLACED, from);
            }
            joinAny();
            System.arraycopy(any[0], 0, plan.tables, r * Plan.TABLE, Plan.TABLE);
        }

        /** Whether a unit is still wanted, because a bracket was opened. */
        boolean takeUnit(int r) {
            if (isSign('(')) {
                if (depth >= MOST_DEEP) {
                    refuse(TOO_MANY, from);
                    return true;
                }
                openDepth(depth + 1);
                step();
                return true;
            }
            if (kind != NAME) {
                refuse(MISPLACED, from);
            } else if (isWord("key")) {
                joinPart(r, RAILS);
                step();
            } else if (railNamed() == NONE) {
                refuse(OUT_OF_BOUNDS, from);
            } else {
                noteUse(railNamed());
                joinPart(r, railNamed());
                step();
            }
            return false;
        }

        void openDepth(int d) {
            depth = d;
            Arrays.fill(any[d], 0L);
            Arrays.fill(all[d], -1L);
        }

        void closeDepth() {
            joinAny();
            for (int w = 0; w < Plan.TABLE; w++) {
                all[depth - 1][w] &= any[depth][w];
            }
            depth--;
        }

        void joinAny() {
            for (int w = 0; w < Plan.TABLE; w++) {
                any[depth][w] |= all[depth][w];
                all[depth][w] = -1L;
            }
        }

        /** Part RAILS is the key, whose bit is the next one behind those of the rails. */
        void joinPart(int r, int part) {
            plan.setNumber(r, Plan.PARTS, plan.number(r, Plan.PARTS) | (1 << part));
            for (int w = 0; w < Plan.TABLE; w++) {
                if (part < IN_WORD.length) {
                    all[depth][w] &= IN_WORD[part];
                } else if (((w >> (part - IN_WORD.length)) & 1) == 0) {
                    all[depth][w] = 0L;
                }
            }
        }

        void noteUse(int r) {
            if (firstUse[r] == NONE) {
                firstUse[r] = from;
            }
        }

        void findNotTold() {
            int first = Tape.ROOM;
            for (int r = plan.rails; r < RAILS; r++) {
                if (firstUse[r] != NONE) {
                    first = Math.min(first, firstUse[r]);
                }
            }
            if (first < Tape.ROOM) {
                refuse(NOT_TOLD, first);
            }
        }
    }

    /** What happened when, the first 64 of it. */
    private static final class History {
        static final int ROOM = 64;

        final int[] ticks;
        final int[] who;
        final int[] became;
        int size;

        History() {
            ticks = new int[ROOM];
            who = new int[ROOM];
            became = new int[ROOM];
            size = 0;
        }

        void note(int tick, int rail, int what) {
            if (size >= ROOM) {
                return;
            }
            ticks[size] = tick;
            who[size] = rail;
            became[size] = what;
            size++;
        }
    }

    /** The rails as they go, tick by tick. */
    private static final class Run {
        static final int OFF = 0, WAITS = 1, RISES = 2, GOOD = 3, FALLS = 4, TRIPPED = 5;
        static final int OVER_LIMIT = 1, TOO_LATE = 2;
        /** Far above what a tick can need: a rail becomes good at most once in it. */
        static final int ROUNDS = 1000;

        final History history;
        final int[] states;
        final int[] since;
        final int[] asked;
        final int[] takes;
        final int[] timesGood;
        int dead;
        boolean key;
        int tick;
        int held;
        int tries;
        int trips;
        int latestDraw;
        int greatestDraw;

        Run() {
            history = new History();
            states = new int[RAILS];
            since = new int[RAILS];
            asked = new int[RAILS];
            takes = new int[RAILS];
            timesGood = new int[RAILS];
            dead = 0;
            key = false;
        }

        void reset(Plan plan) {
            history.size = 0;
            for (int r = 0; r < RAILS; r++) {
                states[r] = OFF;
                since[r] = 0;
                asked[r] = 0;
                takes[r] = plan.number(r, Plan.LEAST);
                timesGood[r] = 0;
            }
            dead = 0;
            key = false;
            tick = 0;
            held = 0;
            tries = plan.retry;
            trips = 0;
            latestDraw = 0;
            greatestDraw = 0;
        }

        void turnKey(Plan plan, boolean on) {
            key = on;
            if (!on) {
                tries = plan.retry;
                if (held == NONE) {
                    held = 0;
                }
            }
        }

        int railsThatAre(int state) {
            int set = 0;
            for (int r = 0; r < RAILS; r++) {
                if (states[r] == state) {
                    set |= 1 << r;
                }
            }
            return set;
        }

        void passTick(Plan plan) {
            settle(plan);
            latestDraw = sumDraw(plan);
            greatestDraw = Math.max(greatestDraw, latestDraw);
            int why = whyTrip(plan);
            if (why != 0) {
                trip(plan, why);
                settle(plan);
            }
            growOlder(plan);
        }

        void settle(Plan plan) {
            boolean changed = true;
            for (int round = 0; round < ROUNDS && changed; round++) {
                changed = changeRails(plan, railsThatMay(plan));
            }
        }

        int railsThatMay(Plan plan) {
            if (held != 0) {
                return 0;
            }
            int holding = railsThatAre(GOOD) | (key ? KEY : 0);
            int set = 0;
            for (int r = 0; r < plan.rails; r++) {
                if (plan.holdsWith(r, holding)) {
                    set |= 1 << r;
                }
            }
            return set;
        }

        boolean changeRails(Plan plan, int may) {
            boolean changed = false;
            for (int r = 0; r < plan.rails; r++) {
                int next = nextState(plan, r, ((may >> r) & 1) == 1);
                if (next != states[r]) {
                    become(r, next);
                    changed = true;
                }
            }
            return changed;
        }

        int nextState(Plan plan, int r, boolean may) {
            boolean alive = ((dead >> r) & 1) == 0;
            switch (states[r]) {
                case OFF:
                    return may ? WAITS : OFF;
                case WAITS:
                    if (!may) {
                        return OFF;
                    }
                    return since[r] >= plan.number(r, Plan.WAIT) ? RISES : WAITS;
                case RISES:
                    if (!may) {
                        return FALLS;
                    }
                    return alive && since[r] >= takes[r] ? GOOD : RISES;
                case GOOD:
                    return may && alive ? GOOD : FALLS;
                default:
                    return since[r] >= plan.number(r, Plan.FALL) ? OFF : FALLS;
            }
        }

        void become(int r, int next) {
            states[r] = next;
            since[r] = 0;
            if (next == WAITS) {
                asked[r] = 0;
            }
            if (next == GOOD) {
                timesGood[r]++;
            }
            history.note(tick, r, next);
        }

        int sumDraw(Plan plan) {
            int sum = 0;
            for (int r = 0; r < plan.rails; r++) {
                if (states[r] == GOOD) {
                    sum += plan.number(r, Plan.DRAW);
                } else if (states[r] == RISES) {
                    sum += plan.number(r, Plan.RISING_DRAW);
                }
            }
            return sum;
        }

        int whyTrip(Plan plan) {
            if (latestDraw > plan.limit) {
                return OVER_LIMIT;
            }
            for (int r = 0; r < plan.rails; r++) {
                int within = plan.number(r, Plan.WITHIN);
                boolean comes = states[r] == WAITS || states[r] == RISES;
                if (within > 0 && comes && asked[r] >= within) {
                    return TOO_LATE;
                }
            }
            return 0;
        }

        void trip(Plan plan, int why) {
            trips++;
            history.note(tick, NONE, TRIPPED + why);
            if (tries > 0) {
                tries--;
                held = plan.behind;
            } else {
                held = NONE;
            }
        }

        void growOlder(Plan plan) {
            for (int r = 0; r < plan.rails; r++) {
                since[r]++;
                asked[r]++;
            }
            tick++;
            if (held > 0) {
                held--;
            }
        }
    }

    /** When rails rise and are good by given waits and times, from the key being turned on. */
    private static final class Course {
        /** Eight rails one behind the other, each with a wait of 9 and 9 ticks to rise. */
        static final int LAST_TICK = RAILS * 18;

        final int[] waits;
        final int[] takes;
        final int[] risesAt;
        final int[] goodAt;
        /** How the draw changes at each tick; all 0 but while a peak is looked for. */
        final int[] changes;
        int up;
        int last;
        int peak;
        int peakTick;

        Course() {
            waits = new int[RAILS];
            takes = new int[RAILS];
            risesAt = new int[RAILS];
            goodAt = new int[RAILS];
            changes = new int[LAST_TICK + 1];
        }

        void setWaits(Plan plan) {
            for (int r = 0; r < plan.rails; r++) {
                waits[r] = plan.number(r, Plan.WAIT);
            }
        }

        void setTakes(Plan plan, int which) {
            for (int r = 0; r < plan.rails; r++) {
                takes[r] = plan.number(r, which);
            }
        }

        void copyTakes(int[] source) {
            System.arraycopy(source, 0, takes, 0, RAILS);
        }

        boolean isUp(int r) {
            return ((up >> r) & 1) == 1;
        }

        /** Goes from one tick at which a rail becomes good to the next such tick. */
        void follow(Plan plan, int alive) {
            int begun = 0;
            up = 0;
            last = 0;
            for (int step = 0; step <= RAILS; step++) {
                begun |= begin(plan, alive & ~begun);
                int pending = begun & ~up;
                if (pending == 0) {
                    return;
                }
                last = soonest(pending);
                for (int r = 0; r < RAILS; r++) {
                    if (((pending >> r) & 1) == 1 && goodAt[r] == last) {
                        up |= 1 << r;
                    }
                }
            }
        }

        int begin(Plan plan, int some) {
            int begun = 0;
            for (int r = 0; r < plan.rails; r++) {
                if (((some >> r) & 1) == 1 && plan.holdsWith(r, up | KEY)) {
                    begun |= 1 << r;
                    risesAt[r] = last + waits[r];
                    goodAt[r] = risesAt[r] + takes[r];
                }
            }
            return begun;
        }

        int soonest(int pending) {
            int tick = LAST_TICK;
            for (int r = 0; r < RAILS; r++) {
                if (((pending >> r) & 1) == 1) {
                    tick = Math.min(tick, goodAt[r]);
                }
            }
            return tick;
        }

        int drawnAt(Plan plan, int tick) {
            int sum = 0;
            for (int r = 0; r < plan.rails; r++) {
                if (!isUp(r)) {
                    continue;
                }
                if (tick >= goodAt[r]) {
                    sum += plan.number(r, Plan.DRAW);
                } else if (tick >= risesAt[r]) {
                    sum += plan.number(r, Plan.RISING_DRAW);
                }
            }
            return sum;
        }

        void findPeak(Plan plan) {
            for (int r = 0; r < plan.rails; r++) {
                if (isUp(r) && goodAt[r] <= LAST_TICK) {
                    changes[risesAt[r]] += plan.number(r, Plan.RISING_DRAW);
                    changes[goodAt[r]] += plan.number(r, Plan.DRAW) - plan.number(r, Plan.RISING_DRAW);
                }
            }
            peak = NONE;
            peakTick = NONE;
            int drawn = 0;
            for (int tick = 0; tick <= last && tick <= LAST_TICK; tick++) {
                drawn += changes[tick];
                changes[tick] = 0;
                if (drawn > peak) {
                    peak = drawn;
                    peakTick = tick;
                }
            }
        }
    }

    /** What holds by all times that rails can take. */
    private static final class Ways {
        static final int MOST_WAYS = 20000;

        final Course course;
        final int[] behind;
        final boolean[] behindKnown;
        boolean peaksKnown;
        int greatestPeak;
        int leastPeak;

        Ways(Course shared) {
            course = shared;
            behind = new int[RAILS * RAILS];
            behindKnown = new boolean[RAILS * RAILS];
            peaksKnown = false;
        }

        void forget() {
            peaksKnown = false;
            for (int i = 0; i < RAILS * RAILS; i++) {
                behindKnown[i] = false;
            }
        }

        /** The most ticks by which a is good later than b; both must be up. */
        int mostBehind(Plan plan, int alive, int a, int b) {
            int pair = a * RAILS + b;
            if (behindKnown[pair]) {
                return behind[pair];
            }
            // The times of rails that bear on neither can not matter.
            int some = plan.sourcesOf((1 << a) | (1 << b)) & plan.upAmong(alive);
            start(plan);
            int most = -Course.LAST_TICK;
            boolean more = true;
            for (int way = 0; way < MOST_WAYS && more; way++) {
                course.follow(plan, some);
                most = Math.max(most, course.goodAt[a] - course.goodAt[b]);
                more = nextWay(plan, some);
            }
            behind[pair] = most;
            behindKnown[pair] = true;
            return most;
        }

        void findPeaks(Plan plan, int alive) {
            if (peaksKnown) {
                return;
            }
            int some = plan.upAmong(alive);
            start(plan);
            course.follow(plan, some);
            course.findPeak(plan);
            greatestPeak = course.peak;
            leastPeak = course.peak;
            boolean more = nextWay(plan, some);
            for (int way = 1; way < MOST_WAYS && more; way++) {
                course.follow(plan, some);
                course.findPeak(plan);
                greatestPeak = Math.max(greatestPeak, course.peak);
                leastPeak = Math.min(leastPeak, course.peak);
                more = nextWay(plan, some);
            }
            peaksKnown = true;
        }

        void start(Plan plan) {
            course.setWaits(plan);
            course.setTakes(plan, Plan.LEAST);
        }

        boolean nextWay(Plan plan, int some) {
            for (int r = 0; r < plan.rails; r++) {
                if (((some >> r) & 1) == 0) {
                    continue;
                }
                if (course.takes[r] < plan.number(r, Plan.MOST)) {
                    course.takes[r]++;
                    return true;
                }
                course.takes[r] = plan.number(r, Plan.LEAST);
            }
            return false;
        }
    }

    /** The waits by which the draw stays below the limit and all is up soonest. */
    private static final class Stagger {
        static final int MOST_RAILS = 6;
        static final int MOST_WAIT = 3;
        static final int ROWS = 4096;

        final Course course;
        final int[] row;
        boolean known;
        int last;

        Stagger(Course shared) {
            course = shared;
            row = new int[RAILS];
            known = false;
            last = NONE;
        }

        void findRow(Plan plan, int alive, int[] takes) {
            if (known) {
                return;
            }
            known = true;
            last = NONE;
            Arrays.fill(row, 0);
            Arrays.fill(course.waits, 0);
            course.copyTakes(takes);
            course.follow(plan, alive);
            int some = course.up;
            if (some == 0) {
                return;
            }
            // Waits only put things off, so none ends sooner than no waits at all.
            int soonest = course.last;
            boolean more = true;
            for (int i = 0; i < ROWS && more && last != soonest; i++) {
                course.follow(plan, some);
                if (last == NONE || course.last < last) {
                    keepIfBelowLimit(plan);
                }
                more = nextRow(some);
            }
        }

        void keepIfBelowLimit(Plan plan) {
            course.findPeak(plan);
            if (course.peak <= plan.limit) {
                last = course.last;
                System.arraycopy(course.waits, 0, row, 0, RAILS);
            }
        }

        /** Rows rise with rail 0 as the highest place; those that are not up keep a wait of 0. */
        boolean nextRow(int some) {
            for (int r = RAILS - 1; r >= 0; r--) {
                if (((some >> r) & 1) == 0) {
                    continue;
                }
                if (course.waits[r] < MOST_WAIT) {
                    course.waits[r]++;
                    return true;
                }
                course.waits[r] = 0;
            }
            return false;
        }
    }

    /** Sets of rails that die, and what is up then. */
    private static final class Deaths {
        private Deaths() {
        }

        static boolean isUpAmong(Plan plan, int alive, int r) {
            return ((plan.upAmong(alive) >> r) & 1) == 1;
        }

        /** 0 if there is no such set. */
        static int fewestThatCut(Plan plan, int alive, int r) {
            int best = 0;
            for (int set = 1; set <= plan.allRails(); set++) {
                boolean others = ((set >> r) & 1) == 0;
                boolean fewer = best == 0 || Integer.bitCount(set) < Integer.bitCount(best);
                if (others && fewer && !isUpAmong(plan, alive & ~set, r)) {
                    best = set;
                }
            }
            return best;
        }

        static int fewestThatDo(Plan plan, int alive, int r) {
            int best = plan.allRails();
            for (int set = 1; set <= plan.allRails(); set++) {
                boolean fewer = Integer.bitCount(set) < Integer.bitCount(best);
                if (fewer && isUpAmong(plan, alive & set, r)) {
                    best = set;
                }
            }
            return best;
        }

        static int neverWithout(Plan plan, int alive, int r) {
            int set = 0;
            for (int other = 0; other < plan.rails; other++) {
                if (!isUpAmong(plan, alive & ~(1 << other), r)) {
                    set |= 1 << other;
                }
            }
            return set;
        }

        static int thatExplain(Plan plan, int good) {
            int all = plan.allRails();
            int set = plan.upAmong(all) == good ? KEY : 0;
            for (int r = 0; r < plan.rails; r++) {
                if (plan.upAmong(all & ~(1 << r)) == good) {
                    set |= 1 << r;
                }
            }
            return set;
        }
    }

    /** Rows of cells, whose faults are found by looking ahead. */
    private static final class Sheets {
        static final int PLACES = 4;
        static final int CELLS = 40;
        static final int BYTES = 0, SHORTS = 1, INTS = 2;
        static final int NULL_FAULT = 1, INDEX_FAULT = 2, CAST_FAULT = 3, SIZE_FAULT = 4;
        static final int MOST_MEASURED = 9999;

        final int[][] cells;
        final int[] lanes;
        /** NONE where there is no row. */
        final int[] sizes;

        Sheets() {
            cells = new int[PLACES][CELLS];
            lanes = new int[PLACES];
            sizes = new int[PLACES];
            Arrays.fill(sizes, NONE);
        }

        static boolean hasPlace(int k) {
            return k >= 0 && k < PLACES;
        }

        static boolean isLane(int lane) {
            return lane >= BYTES && lane <= INTS;
        }

        void renew(int k, int lane, int n) {
            lanes[k] = lane;
            sizes[k] = n;
            Arrays.fill(cells[k], 0);
        }

        void put(int k, int i, int v) {
            switch (lanes[k]) {
                case BYTES:
                    cells[k][i] = (byte) v;
                    break;
                case SHORTS:
                    cells[k][i] = (short) v;
                    break;
                default:
                    cells[k][i] = v;
                    break;
            }
        }
    }
}
