import java.util.ArrayList;
import java.util.HashSet;
import java.util.List;
import java.util.Set;

/**
 * The document a second time, written another way: formulas as trees, times by rounds of summing, all ways, rows
 * and sets by trying every one. Slow, and with nothing kept between calls, so that it can judge what the class keeps.
 */
final class Oracle {
    static final int BAD = -1, STATE = -2, FULL = -3, NONE = -4, SPENT = -6;
    private static final int NEVER = 1_000_000;

    /** A fault of a text, thrown where it is met. */
    private static final class Fault extends RuntimeException {
        private static final long serialVersionUID = 1L;
        final int kind;
        final int place;

        Fault(int kind, int place) {
            this.kind = kind;
            this.place = place;
        }
    }

    /** A formula: a leaf (0 to 7 a rail, 8 the key), or parts joined by sign. */
    private static final class Node {
        char sign = ' ';
        int leaf = -1;
        int place = -1;
        final List<Node> parts = new ArrayList<>();

        boolean holds(int set) {
            if (sign == ' ') {
                return (set >> leaf & 1) == 1;
            }
            for (Node p : parts) {
                if (p.holds(set) == (sign == '|')) {
                    return sign == '|';
                }
            }
            return sign == '&';
        }

        int time(int[] when) {
            if (sign == ' ') {
                return leaf == 8 ? 0 : when[leaf];
            }
            int t = sign == '&' ? 0 : NEVER;
            for (Node p : parts) {
                t = sign == '&' ? Math.max(t, p.time(when)) : Math.min(t, p.time(when));
            }
            return t;
        }

        int leaves() {
            int set = leaf >= 0 ? 1 << leaf : 0;
            for (Node p : parts) {
                set |= p.leaves();
            }
            return set;
        }

        void collect(List<Node> out) {
            if (leaf >= 0) {
                out.add(this);
            }
            for (Node p : parts) {
                p.collect(out);
            }
        }
    }

    private static final class Rail {
        int least, most, fall = 1, draw = 1, rising = 2, wait = 0, within = 0;
        Node formula;
        int state = 0, since = 0, asked = 0, take, good = 0;
        boolean dead = false;
    }

    private final StringBuilder tape = new StringBuilder();
    private List<Rail> rails = new ArrayList<>();
    private int limit = 999, retry = 0, behind = 5;
    private int fault = 0;
    private boolean key = false;
    private int tick = 0, held = 0, tries = 0, trips = 0, latest = 0, greatest = 0;
    private List<int[]> history = new ArrayList<>();
    private final Object[] sheets = new Object[4];

    // ---- the text

    int feed(long v) {
        if (tape.length() > 392) {
            return FULL;
        }
        for (int i = 7; i >= 0; i--) {
            tape.append((char) (v >> 8 * i & 255));
        }
        return tape.length();
    }

    int end(int n) {
        if (n < 0 || n > tape.length()) {
            return BAD;
        }
        int had = tape.length();
        tape.setLength(n);
        return had;
    }

    private String source;
    private int at, from;
    private String token;
    private List<Rail> newRails;
    private int newLimit, newRetry, newBehind;

    int text() {
        source = tape.toString();
        tape.setLength(0);
        try {
            int lines = parse();
            fault = 0;
            rails = newRails;
            limit = newLimit;
            retry = newRetry;
            behind = newBehind;
            key = false;
            tick = held = trips = latest = greatest = 0;
            tries = retry;
            history = new ArrayList<>();
            return lines;
        } catch (Fault f) {
            fault = f.kind;
            return -10 - f.place;
        }
    }

    private void next() {
        while (at < source.length() && source.charAt(at) == ' ') {
            at++;
        }
        from = at;
        if (at == source.length()) {
            token = "";
            return;
        }
        String rest = source.substring(at);
        String word = rest.replaceAll("(?s)^([a-z]+|[0-9]+|[()&|;]|).*$", "$1");
        if (word.isEmpty() || word.matches("[0-9]{4,}")) {
            throw new Fault(1, from);
        }
        token = word;
        at += word.length();
    }

    private boolean isName() {
        return token.matches("[a-z]+");
    }

    private int number(int low, int high) {
        if (!token.matches("[0-9]+")) {
            throw new Fault(2, from);
        }
        int v = Integer.parseInt(token);
        if (v < low || v > high) {
            throw new Fault(3, from);
        }
        next();
        return v;
    }

    private void once(Set<String> told) {
        if (!told.add(token)) {
            throw new Fault(4, from);
        }
        next();
    }

    private int parse() {
        newRails = new ArrayList<>();
        newLimit = 999;
        newRetry = 0;
        newBehind = 5;
        at = 0;
        Set<String> told = new HashSet<>();
        int lines = 0;
        next();
        while (!token.isEmpty()) {
            switch (token) {
                case "limit" -> {
                    once(told);
                    newLimit = number(1, 999);
                }
                case "retry" -> {
                    once(told);
                    newRetry = number(0, 9);
                    newBehind = number(1, 99);
                }
                case "rail" -> parseRail();
                default -> throw new Fault(2, from);
            }
            if (!token.equals(";")) {
                throw new Fault(2, from);
            }
            next();
            lines++;
        }
        for (Rail r : newRails) {
            List<Node> leaves = new ArrayList<>();
            r.formula.collect(leaves);
            for (Node n : leaves) {
                if (n.leaf < 8 && n.leaf >= newRails.size()) {
                    throw new Fault(6, n.place);
                }
            }
        }
        return lines;
    }

    private void parseRail() {
        if (newRails.size() == 8) {
            throw new Fault(5, from);
        }
        next();
        if (!isName()) {
            throw new Fault(2, from);
        }
        if (!token.equals(String.valueOf((char) ('a' + newRails.size())))) {
            throw new Fault(3, from);
        }
        Rail r = new Rail();
        newRails.add(r);
        next();
        r.least = number(1, 9);
        r.most = number(r.least, 9);
        r.take = r.least;
        Set<String> told = new HashSet<>();
        while (isName() && !token.equals("when")) {
            switch (token) {
                case "fall" -> {
                    once(told);
                    r.fall = number(0, 9);
                }
                case "draw" -> {
                    once(told);
                    r.draw = number(0, 99);
                    r.rising = number(0, 99);
                }
                case "wait" -> {
                    once(told);
                    r.wait = number(0, 9);
                }
                case "within" -> {
                    once(told);
                    r.within = number(1, 99);
                }
                default -> throw new Fault(2, from);
            }
        }
        if (token.equals("when")) {
            next();
            r.formula = parseJoined('|', 0);
        } else {
            r.formula = new Node();
            r.formula.leaf = 8;
        }
    }

    private Node parseJoined(char sign, int depth) {
        Node n = new Node();
        n.sign = sign;
        while (true) {
            n.parts.add(sign == '|' ? parseJoined('&', depth) : parseUnit(depth));
            if (!token.equals(String.valueOf(sign))) {
                return n;
            }
            next();
        }
    }

    private Node parseUnit(int depth) {
        if (token.equals("(")) {
            if (depth == 6) {
                throw new Fault(5, from);
            }
            next();
            Node n = parseJoined('|', depth + 1);
            if (!token.equals(")")) {
                throw new Fault(2, from);
            }
            next();
            return n;
        }
        if (!isName()) {
            throw new Fault(2, from);
        }
        if (!token.equals("key") && !token.matches("[a-h]")) {
            throw new Fault(3, from);
        }
        Node n = new Node();
        n.leaf = token.equals("key") ? 8 : token.charAt(0) - 'a';
        n.place = from;
        next();
        return n;
    }

    int fault() {
        return fault;
    }

    private boolean no(int r) {
        return r < 0 || r >= rails.size();
    }

    int rail(int r, int what) {
        if (no(r) || what < 0 || what > 7) {
            return BAD;
        }
        Rail x = rails.get(r);
        return new int[] {x.least, x.most, x.fall, x.draw, x.rising, x.wait, x.within, x.formula.leaves()}[what];
    }

    int rule(int what) {
        return what < 0 || what > 3 ? BAD : new int[] {limit, retry, behind, rails.size()}[what];
    }

    private int all() {
        return (1 << rails.size()) - 1;
    }

    int holds(int r, int good) {
        if (no(r) || good < 0 || good > 511 || (good & 255) > all()) {
            return BAD;
        }
        return rails.get(r).formula.holds(good) ? 1 : 0;
    }

    int words(int r, int what) {
        if (no(r) || what < 0 || what > 0 && what < 10) {
            return BAD;
        }
        List<Integer> least = new ArrayList<>();
        for (int set = 0; set < 512; set++) {
            boolean is = rails.get(r).formula.holds(set);
            for (int lesser : least) {
                is = is && (lesser & set) != lesser;
            }
            if (is) {
                least.add(set);
            }
        }
        if (what == 0) {
            return least.size();
        }
        return what - 10 < least.size() ? least.get(what - 10) : BAD;
    }

    // ---- as it goes

    int key(boolean on) {
        int was = key ? 1 : 0;
        key = on;
        if (!on) {
            tries = retry;
            held = held == NONE ? 0 : held;
        }
        return was;
    }

    int dead(int r, boolean is) {
        if (no(r)) {
            return BAD;
        }
        int was = rails.get(r).dead ? 1 : 0;
        rails.get(r).dead = is;
        return was;
    }

    int time(int r, int v) {
        if (no(r) || v < rails.get(r).least || v > rails.get(r).most) {
            return BAD;
        }
        int was = rails.get(r).take;
        rails.get(r).take = v;
        return was;
    }

    int go(int n) {
        if (n < 1 || n > 999) {
            return BAD;
        }
        int before = trips;
        for (int i = 0; i < n; i++) {
            oneTick();
        }
        return trips - before;
    }

    private int those(int state) {
        int set = 0;
        for (int r = 0; r < rails.size(); r++) {
            set |= rails.get(r).state == state ? 1 << r : 0;
        }
        return set;
    }

    private void note(int who, int what) {
        if (history.size() < 64) {
            history.add(new int[] {tick, who, what});
        }
    }

    private void settle() {
        boolean changed = true;
        while (changed) {
            changed = false;
            int set = those(3) | (key ? 256 : 0);
            for (int r = 0; r < rails.size(); r++) {
                Rail x = rails.get(r);
                boolean may = held == 0 && x.formula.holds(set);
                int to = x.state;
                if (x.state == 0 && may) {
                    to = 1;
                } else if (x.state == 1 && !may) {
                    to = 0;
                } else if (x.state == 1 && x.since >= x.wait) {
                    to = 2;
                } else if ((x.state == 2 || x.state == 3) && !may) {
                    to = 4;
                } else if (x.state == 2 && !x.dead && x.since >= x.take) {
                    to = 3;
                } else if (x.state == 3 && x.dead) {
                    to = 4;
                } else if (x.state == 4 && x.since >= x.fall) {
                    to = 0;
                }
                if (to != x.state) {
                    changed = true;
                    x.state = to;
                    x.since = 0;
                    x.asked = to == 1 ? 0 : x.asked;
                    x.good += to == 3 ? 1 : 0;
                    note(r, to);
                }
            }
        }
    }

    private void oneTick() {
        settle();
        latest = 0;
        boolean late = false;
        for (Rail x : rails) {
            latest += x.state == 3 ? x.draw : x.state == 2 ? x.rising : 0;
            late |= (x.state == 1 || x.state == 2) && x.within > 0 && x.asked >= x.within;
        }
        greatest = Math.max(greatest, latest);
        if (latest > limit || late) {
            trips++;
            note(NONE, latest > limit ? 6 : 7);
            held = tries > 0 ? behind : NONE;
            tries = Math.max(0, tries - 1);
            settle();
        }
        for (Rail x : rails) {
            x.since++;
            x.asked++;
        }
        tick++;
        held = held > 0 ? held - 1 : held;
    }

    int now(int what) {
        if (what < 0 || what > 8) {
            return -9;
        }
        return new int[] {tick, those(3), those(2), latest, held, tries, greatest, key ? 1 : 0, trips}[what];
    }

    int is(int r, int what) {
        if (no(r) || what < 0 || what > 4) {
            return BAD;
        }
        Rail x = rails.get(r);
        return new int[] {x.state, x.since, x.dead ? 1 : 0, x.take, x.good}[what];
    }

    int happened(int i, int what) {
        return i < 0 || i >= history.size() || what < 0 || what > 2 ? BAD : history.get(i)[what];
    }

    // ---- what is sure

    private int deadByHand() {
        int set = 0;
        for (int r = 0; r < rails.size(); r++) {
            set |= rails.get(r).dead ? 1 << r : 0;
        }
        return set;
    }

    /** What can be up, by adding one rail at a time. */
    private int upWithout(int dead) {
        int good = 0;
        boolean more = true;
        while (more) {
            more = false;
            for (int r = 0; r < rails.size() && !more; r++) {
                if (((good | dead) >> r & 1) == 0 && rails.get(r).formula.holds(good | 256)) {
                    good |= 1 << r;
                    more = true;
                }
            }
        }
        return good;
    }

    private boolean isUp(int r, int dead) {
        return (upWithout(dead) >> r & 1) == 1;
    }

    int up(int what) {
        int dead = deadByHand();
        return switch (what) {
            case 0 -> upWithout(dead);
            case 1 -> all() & ~dead & ~upWithout(dead);
            case 2 -> all() & ~upWithout(0);
            default -> BAD;
        };
    }

    private int[] whens(int[] takes, int[] waits) {
        int[] when = new int[8];
        java.util.Arrays.fill(when, NEVER);
        for (int round = 0; round <= rails.size(); round++) {
            for (int r = 0; r < rails.size(); r++) {
                int t = rails.get(r).formula.time(when);
                if (!rails.get(r).dead && t < NEVER) {
                    when[r] = t + waits[r] + takes[r];
                }
            }
        }
        return when;
    }

    private int[] of(int what) {
        int[] row = new int[8];
        for (int r = 0; r < rails.size(); r++) {
            Rail x = rails.get(r);
            row[r] = new int[] {x.take, x.least, x.most, x.wait}[what];
        }
        return row;
    }

    int when(int r, int what) {
        if (no(r) || what < 0 || what > 2) {
            return BAD;
        }
        int t = whens(of(what), of(3))[r];
        return t == NEVER ? NONE : t;
    }

    private long countWays() {
        long n = 1;
        for (Rail x : rails) {
            n *= x.most - x.least + 1;
        }
        return n;
    }

    private List<int[]> allWays() {
        List<int[]> ways = new ArrayList<>();
        addWays(ways, of(1), 0);
        return ways;
    }

    private void addWays(List<int[]> ways, int[] row, int r) {
        if (r == rails.size()) {
            ways.add(row.clone());
            return;
        }
        for (int t = rails.get(r).least; t <= rails.get(r).most; t++) {
            row[r] = t;
            addWays(ways, row, r + 1);
        }
    }

    int ahead(int a, int b, int what) {
        if (no(a) || no(b) || a == b || what < 0 || what > 1) {
            return -1000;
        }
        if (countWays() > 20000) {
            return -1002;
        }
        int dead = deadByHand();
        if (!isUp(a, dead) || !isUp(b, dead)) {
            return -1004;
        }
        boolean always = true;
        boolean orSame = true;
        int most = -NEVER;
        int[] waits = of(3);
        for (int[] way : allWays()) {
            int[] when = whens(way, waits);
            always &= when[a] < when[b];
            orSame &= when[a] <= when[b];
            most = Math.max(most, when[a] - when[b]);
        }
        return what == 1 ? most : always ? 2 : orSame ? 1 : 0;
    }

    private int drawnAt(int[] when, int[] takes, int t) {
        int sum = 0;
        for (int r = 0; r < rails.size(); r++) {
            if (when[r] < NEVER && t >= when[r]) {
                sum += rails.get(r).draw;
            } else if (when[r] < NEVER && t >= when[r] - takes[r]) {
                sum += rails.get(r).rising;
            }
        }
        return sum;
    }

    int drawn(int t) {
        return t < 0 || t > 999 ? BAD : drawnAt(whens(of(0), of(3)), of(0), t);
    }

    /** The greatest draw, and the first tick with it. */
    private int[] peakOf(int[] takes, int[] waits) {
        int[] when = whens(takes, waits);
        int[] best = {-1, -1};
        for (int t = 0; t < 150; t++) {
            int d = drawnAt(when, takes, t);
            if (d > best[0]) {
                best = new int[] {d, t};
            }
        }
        return best;
    }

    int peak(int what) {
        if (what < 0 || what > 3) {
            return BAD;
        }
        if (what >= 2 && countWays() > 20000) {
            return STATE;
        }
        if (upWithout(deadByHand()) == 0) {
            return NONE;
        }
        if (what < 2) {
            return peakOf(of(0), of(3))[what];
        }
        int most = -1;
        int least = NEVER;
        for (int[] way : allWays()) {
            int p = peakOf(way, of(3))[0];
            most = Math.max(most, p);
            least = Math.min(least, p);
        }
        return what == 2 ? most : least;
    }

    private int[] bestRow;

    private int findStagger() {
        bestRow = null;
        int best = NONE;
        int up = upWithout(deadByHand());
        int n = rails.size();
        for (int code = 0; up != 0 && code < 1 << 2 * n; code++) {
            int[] waits = new int[8];
            for (int r = 0; r < n; r++) {
                waits[r] = code >> 2 * (n - 1 - r) & 3;
            }
            int[] when = whens(of(0), waits);
            int last = 0;
            for (int r = 0; r < n; r++) {
                last = (up >> r & 1) == 1 ? Math.max(last, when[r]) : last;
            }
            if ((best == NONE || last < best) && peakOf(of(0), waits)[0] <= limit) {
                best = last;
                bestRow = waits;
            }
        }
        return best;
    }

    int stagger(int what) {
        if (what != 0 && no(what < 10 ? -1 : what - 10)) {
            return BAD;
        }
        if (rails.size() > 6) {
            return STATE;
        }
        int last = findStagger();
        return what == 0 || last == NONE ? last : bestRow[what - 10];
    }

    int adopt() {
        if (rails.size() > 6) {
            return STATE;
        }
        int last = findStagger();
        for (int r = 0; r < rails.size() && last != NONE; r++) {
            rails.get(r).wait = bestRow[r];
        }
        return last;
    }

    // ---- what dies

    int down(int some) {
        if (some < 0 || some > all()) {
            return BAD;
        }
        return upWithout(deadByHand()) & ~upWithout(deadByHand() | some);
    }

    int cut(int r, int what) {
        if (no(r) || what < 0 || what > 1) {
            return BAD;
        }
        if (!isUp(r, deadByHand())) {
            return STATE;
        }
        for (int n = 0; n <= 8; n++) {
            for (int set = 0; set <= all(); set++) {
                if (Integer.bitCount(set) == n && (set >> r & 1) == 0 && !isUp(r, deadByHand() | set)) {
                    return what == 0 ? n : set;
                }
            }
        }
        return NONE;
    }

    int need(int r, int what) {
        if (no(r) || what < 0 || what > 1) {
            return BAD;
        }
        if (!isUp(r, deadByHand())) {
            return STATE;
        }
        for (int n = 0; n <= 8; n++) {
            for (int set = 0; set <= all(); set++) {
                boolean fits = Integer.bitCount(set) == n && (set >> r & 1) == 1;
                if (fits && isUp(r, deadByHand() | all() & ~set)) {
                    return what == 0 ? n : set;
                }
            }
        }
        return STATE;
    }

    int must(int r) {
        if (no(r)) {
            return BAD;
        }
        if (!isUp(r, deadByHand())) {
            return STATE;
        }
        int set = 0;
        for (int x = 0; x < rails.size(); x++) {
            set |= isUp(r, deadByHand() | 1 << x) ? 0 : 1 << x;
        }
        return set;
    }

    int seen(int good) {
        if (good < 0 || good > all()) {
            return BAD;
        }
        int set = 0;
        for (int x = 0; x < rails.size(); x++) {
            set |= upWithout(1 << x) == good ? 1 << x : 0;
        }
        return set | (upWithout(0) == good ? 256 : 0);
    }

    // ---- sheets, by what the machine finds itself

    int sheet(int k, int lane, int n) {
        if (k < 0 || k > 3 || lane < 0 || lane > 2 || n > 40) {
            return BAD;
        }
        try {
            sheets[k] = lane == 0 ? (Object) new byte[n] : lane == 1 ? (Object) new short[n] : (Object) new int[n];
            return 1;
        } catch (NegativeArraySizeException e) {
            return -14;
        }
    }

    int lay(int k, int i, int v) {
        if (k < 0 || k > 3) {
            return BAD;
        }
        try {
            if (sheets[k] instanceof byte[] b) {
                b[i] = (byte) v;
            } else if (sheets[k] instanceof short[] s) {
                s[i] = (short) v;
            } else {
                ((int[]) sheets[k])[i] = v;
            }
            return 1;
        } catch (NullPointerException e) {
            return -11;
        } catch (ArrayIndexOutOfBoundsException e) {
            return -12;
        }
    }

    private static int cell(Object row, int lane, int i) {
        return lane == 0 ? ((byte[]) row)[i] : lane == 1 ? ((short[]) row)[i] : ((int[]) row)[i];
    }

    int measured(int k, int lane, int f, int n, int what) {
        if (k < 0 || k > 3 || lane < 0 || lane > 2 || n < 0 || n > 40 || what < 0 || what > 2) {
            return BAD;
        }
        try {
            sheets[k].getClass();
            Class<?> type = lane == 0 ? byte[].class : lane == 1 ? short[].class : int[].class;
            type.cast(sheets[k]);
            int same = 0;
            int first = NONE;
            int apart = 0;
            for (int t = 0; t < n; t++) {
                int v = cell(sheets[k], lane, f + t);
                if (v < 0 || v > 9999) {
                    return -20 - t;
                }
                int d = drawn(t);
                same += v == d ? 1 : 0;
                first = v != d && first == NONE ? t : first;
                apart += Math.abs(v - d);
            }
            return what == 0 ? same : what == 1 ? first : apart;
        } catch (NullPointerException e) {
            return -11;
        } catch (ClassCastException e) {
            return -13;
        } catch (ArrayIndexOutOfBoundsException e) {
            return -12;
        }
    }

    int count(int what) {
        return switch (what) {
            case 0 -> rails.size();
            case 1 -> Integer.bitCount(deadByHand());
            case 2 -> history.size();
            case 3 -> countWays() > 20000 ? SPENT : (int) countWays();
            case 4 -> tape.length();
            case 5 -> sheets[0] == null ? NONE : java.lang.reflect.Array.getLength(sheets[0]);
            default -> BAD;
        };
    }
}
