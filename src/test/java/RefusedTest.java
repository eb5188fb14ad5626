import java.util.ArrayList;
import java.util.LinkedHashMap;
import java.util.List;
import java.util.Map;
import java.util.function.ToIntFunction;

/**
 * "What is refused changes nothing (but THE TAPE, as told)": in many states, an object that refused a call answers
 * all that can be asked, and goes on, as one that never was asked. No object is used for more than 512 calls.
 */
public final class RefusedTest {
    private record Call(String name, ToIntFunction<PowerRails> ask) {
    }

    private static final int BAD = PowerRails.BAD, STATE = PowerRails.STATE, NONE = PowerRails.NONE;
    private static final int LOW = Integer.MIN_VALUE, HIGH = Integer.MAX_VALUE;

    private static final Map<String, List<Call>> STATES = new LinkedHashMap<>();
    private static final List<List<Call>> LOOKS = new ArrayList<>();

    public static void main(String[] args) {
        Due.says("what is refused changes nothing (but THE TAPE, as told)");
        makeStates();
        makeLooks();
        asking();
        alwaysBad();
        fullTape();
        textRefused();
        lays();
        adoptRefused();
        stateAndNone();
        Due.close();
    }

    /** The answers of a new object to some calls. */
    private static int[] answers(List<Call> calls) {
        Due.is("calls of one object at most 512: " + calls.size(), calls.size() <= 512 ? 1 : 0, 1);
        PowerRails x = new PowerRails();
        int[] got = new int[calls.size()];
        for (int i = 0; i < got.length; i++) {
            got[i] = calls.get(i).ask().applyAsInt(x);
        }
        return got;
    }

    @SafeVarargs
    private static List<Call> join(List<Call>... parts) {
        List<Call> all = new ArrayList<>();
        for (List<Call> part : parts) {
            all.addAll(part);
        }
        return all;
    }

    /** Behind both of these all answers must be the same. */
    private static void twins(String name, List<Call> one, List<Call> other) {
        for (List<Call> look : LOOKS) {
            int[] got = answers(join(one, look));
            int[] due = answers(join(other, look));
            for (int i = 0; i < look.size(); i++) {
                Due.is(name + ": then " + look.get(i).name(), got[one.size() + i], due[other.size() + i]);
            }
        }
    }

    private static void refuses(String state, Call call, int due) {
        List<Call> before = STATES.get(state);
        List<Call> asked = join(before, List.of(call));
        Due.is(state + ": " + call.name(), answers(asked)[before.size()], due);
        twins(state + ": " + call.name(), asked, before);
    }

    private static Call call(String name, ToIntFunction<PowerRails> ask) {
        return new Call(name, ask);
    }

    private static List<Call> fed(String text) {
        List<Call> calls = new ArrayList<>();
        for (int i = 0; i < text.length(); i += 8) {
            long v = Due.eight(text, i);
            calls.add(call("feed " + text.substring(i), x -> x.feed(v)));
        }
        calls.add(call("end", x -> x.end(text.length())));
        return calls;
    }

    private static List<Call> told(String text) {
        return join(fed(text), List.of(call("text", PowerRails::text)));
    }

    private static final Call ON = call("key on", x -> x.key(true));
    private static final Call OFF = call("key off", x -> x.key(false));

    private static Call go(int n) {
        return call("go " + n, x -> x.go(n));
    }

    private static Call dead(int r) {
        return call("dead " + r, x -> x.dead(r, true));
    }

    private static Call time(int r, int v) {
        return call("time " + r + " " + v, x -> x.time(r, v));
    }

    private static void makeStates() {
        List<Call> four = told("rail a 1 3 wait 1 draw 2 5;rail b 2 4 fall 2 within 9 when a;rail c 1 2 when a & b | c & key;"
            + "rail d 3 3 wait 2 when d | c;limit 13;retry 2 4;");
        List<Call> sheets = List.of(call("sheet 0", x -> x.sheet(0, 0, 5)), call("sheet 1", x -> x.sheet(1, 1, 40)),
            call("sheet 3", x -> x.sheet(3, 2, 3)), call("lay", x -> x.lay(0, 2, 7)), call("lay", x -> x.lay(1, 39, 700)),
            call("lay", x -> x.lay(3, 0, -1)), call("lay", x -> x.lay(3, 1, 70000)));
        STATES.put("new", List.of());
        STATES.put("half fed", fed("rail a 1 1;limit"));
        STATES.put("full", fed("limit 7;" + " ".repeat(392)));
        STATES.put("told", four);
        STATES.put("rising", join(four, List.of(ON, time(0, 3), go(3))));
        STATES.put("with sheets", join(sheets, four, fed("limit 5;"), List.of(dead(1), ON, time(3, 3), go(9))));
        STATES.put("all good", join(four, List.of(ON, go(60))));
        STATES.put("falling", join(four, List.of(ON, go(60), OFF, go(1))));
        List<Call> hot = told("rail a 1 1 draw 1 9 fall 0;rail b 1 2;limit 8;retry 3 6;");
        STATES.put("held", join(hot, List.of(ON, go(3))));
        STATES.put("held for good", join(hot, List.of(ON, go(40))));
        STATES.put("dead", join(four, List.of(dead(0), dead(1), dead(2), dead(3), ON, go(5))));
        STATES.put("behind a fault", join(four, List.of(ON, go(4)), told("rail a 1 1;limit 0;"), fed("retry")));
        STATES.put("eight, many ways", join(told("rail a 1 9;rail b 1 9 when a;rail c 1 9 when b;rail d 1 9 when c;"
            + "rail e 1 9 when d;rail f 1 9 when e;rail g 1 9 when f;rail h 1 9 when h;"), List.of(ON, go(9))));
        List<Call> full = new ArrayList<>(told("rail a 1 1 fall 0 draw 1 1;rail b 1 1 draw 9 2 when a;limit 8;retry 9 1;"));
        full.addAll(List.of(ON, go(60)));
        STATES.put("history full", full);
    }

    private static void makeLooks() {
        List<Call> now = new ArrayList<>();
        now.add(call("fault", PowerRails::fault));
        for (int what = 0; what <= 8; what++) {
            int w = what;
            now.add(call("now " + w, x -> x.now(w)));
            now.add(call("count " + w, x -> x.count(w)));
            now.add(call("rule " + w, x -> x.rule(w)));
            for (int r = 0; r < 8; r++) {
                int who = r;
                now.add(call("rail " + who + " " + w, x -> x.rail(who, w)));
                now.add(call("is " + who + " " + w, x -> x.is(who, w)));
            }
        }
        LOOKS.add(now);
        List<Call> past = new ArrayList<>();
        for (int i = 0; i < 64; i++) {
            int at = i;
            for (int what = 0; what < 3; what++) {
                int w = what;
                past.add(call("happened " + at + " " + w, x -> x.happened(at, w)));
            }
        }
        LOOKS.add(past);
        LOOKS.add(looksAtWhatIsSure());
        LOOKS.add(looksAtSheets());
        LOOKS.add(goesOn());
        // Text that is on the tape is read last of all, for it takes the place of what there was.
        LOOKS.add(join(List.of(call("text", PowerRails::text), call("fault", PowerRails::fault)), now));
    }

    private static List<Call> looksAtWhatIsSure() {
        List<Call> sure = new ArrayList<>();
        for (int r = 0; r < 8; r++) {
            int who = r;
            for (int good : new int[] {0, 1, 3, 256, 259, 263, 511}) {
                sure.add(call("holds " + who + " " + good, x -> x.holds(who, good)));
            }
            for (int what : new int[] {0, 10, 11, 12}) {
                sure.add(call("words " + who + " " + what, x -> x.words(who, what)));
                sure.add(call("when " + who + " " + what, x -> x.when(who, what % 3)));
                sure.add(call("cut " + who + " " + what, x -> x.cut(who, what % 2)));
            }
            sure.add(call("need " + who, x -> x.need(who, 1)));
            sure.add(call("must " + who, x -> x.must(who)));
            sure.add(call("stagger " + who, x -> x.stagger(10 + who)));
            sure.add(call("ahead " + who, x -> x.ahead(who, 2, 1)));
            sure.add(call("down " + who, x -> x.down(1 << who)));
            sure.add(call("seen " + who, x -> x.seen((1 << who) - 1)));
            sure.add(call("drawn " + who, x -> x.drawn(2 * who)));
        }
        for (int what = 0; what <= 3; what++) {
            int w = what;
            sure.add(call("up " + w, x -> x.up(w)));
            sure.add(call("peak " + w, x -> x.peak(w)));
            sure.add(call("stagger " + w, x -> x.stagger(w)));
        }
        return sure;
    }

    private static List<Call> looksAtSheets() {
        List<Call> looks = new ArrayList<>();
        for (int k = 0; k < 4; k++) {
            int sheet = k;
            for (int lane = 0; lane < 3; lane++) {
                int as = lane;
                for (int what = 0; what < 3; what++) {
                    int w = what;
                    looks.add(call("measured " + sheet + " " + as, x -> x.measured(sheet, as, 0, 3, w)));
                    looks.add(call("measured " + sheet + " " + as, x -> x.measured(sheet, as, 0, 5, w)));
                    looks.add(call("measured " + sheet + " " + as, x -> x.measured(sheet, as, 0, 40, w)));
                    looks.add(call("measured " + sheet + " " + as, x -> x.measured(sheet, as, 39, 1, w)));
                    looks.add(call("measured " + sheet + " " + as, x -> x.measured(sheet, as, 1, 1, w)));
                }
            }
        }
        return looks;
    }

    private static List<Call> goesOn() {
        List<Call> looks = new ArrayList<>();
        Call[] turns = {go(1), go(1), go(1), go(2), OFF, go(1), ON, go(1), go(1), go(3), go(20), OFF, OFF, ON, go(4)};
        for (Call turn : turns) {
            looks.add(turn);
            for (int what = 0; what <= 8; what++) {
                int w = what;
                looks.add(call("go on: now " + w, x -> x.now(w)));
            }
            for (int r = 0; r < 4; r++) {
                int who = r;
                looks.add(call("go on: is " + who, x -> x.is(who, 0)));
                looks.add(call("go on: since " + who, x -> x.is(who, 1)));
            }
            looks.add(call("go on: happenings", x -> x.count(2)));
        }
        return looks;
    }

    /** What is only asked changes nothing either. */
    private static void asking() {
        List<Call> all = join(LOOKS.get(0), LOOKS.get(1), LOOKS.get(2), LOOKS.get(3));
        for (String state : STATES.keySet()) {
            for (int from = 0; from < all.size(); from += 120) {
                List<Call> some = all.subList(from, Math.min(all.size(), from + 120));
                twins(state + ": asked from " + some.get(0).name(), join(STATES.get(state), some), STATES.get(state));
            }
        }
    }

    private static void bad(List<Call> calls, String name, ToIntFunction<PowerRails> ask) {
        calls.add(call(name, ask));
    }

    private static void alwaysBad() {
        List<Call> calls = new ArrayList<>();
        for (int n : new int[] {-1, 401, LOW, HIGH}) {
            bad(calls, "end " + n, x -> x.end(n));
        }
        for (int r : new int[] {-1, 8, LOW, HIGH}) {
            badRail(calls, r);
        }
        for (int what : new int[] {-1, 9, LOW, HIGH}) {
            badWhat(calls, what);
        }
        badNumbers(calls);
        badSheets(calls);
        for (String state : STATES.keySet()) {
            for (Call call : calls) {
                boolean own = call.name().startsWith("now") || call.name().startsWith("ahead");
                refuses(state, call, !own ? BAD : call.name().startsWith("now") ? -9 : -1000);
            }
            for (int n : new int[] {-1, -40, LOW}) {
                for (int k = 0; k < 4; k++) {
                    int sheet = k;
                    refuses(state, call("sheet " + k + " of " + n, x -> x.sheet(sheet, 1, n)), -14);
                }
            }
        }
    }

    private static void badRail(List<Call> calls, int r) {
        bad(calls, "rail " + r, x -> x.rail(r, 0));
        bad(calls, "holds " + r, x -> x.holds(r, 0));
        bad(calls, "words " + r, x -> x.words(r, 0));
        bad(calls, "dead " + r, x -> x.dead(r, true));
        bad(calls, "not dead " + r, x -> x.dead(r, false));
        bad(calls, "time " + r, x -> x.time(r, 1));
        bad(calls, "is " + r, x -> x.is(r, 0));
        bad(calls, "when " + r, x -> x.when(r, 0));
        bad(calls, "ahead " + r, x -> x.ahead(r, 0, 0));
        bad(calls, "ahead of " + r, x -> x.ahead(0, r, 0));
        bad(calls, "cut " + r, x -> x.cut(r, 0));
        bad(calls, "need " + r, x -> x.need(r, 0));
        bad(calls, "must " + r, x -> x.must(r));
    }

    private static void badWhat(List<Call> calls, int what) {
        bad(calls, "rail 0 " + what, x -> x.rail(0, what));
        bad(calls, "rule " + what, x -> x.rule(what));
        bad(calls, "words 0 " + what, x -> x.words(0, what));
        bad(calls, "now " + what, x -> x.now(what));
        bad(calls, "is 0 " + what, x -> x.is(0, what));
        bad(calls, "happened 0 " + what, x -> x.happened(0, what));
        bad(calls, "up " + what, x -> x.up(what));
        bad(calls, "when 0 " + what, x -> x.when(0, what));
        bad(calls, "ahead 0 1 " + what, x -> x.ahead(0, 1, what));
        bad(calls, "peak " + what, x -> x.peak(what));
        bad(calls, "stagger " + what, x -> x.stagger(what));
        bad(calls, "cut 0 " + what, x -> x.cut(0, what));
        bad(calls, "need 0 " + what, x -> x.need(0, what));
        bad(calls, "measured what " + what, x -> x.measured(0, 0, 0, 0, what));
        bad(calls, "count " + what, x -> x.count(what));
    }

    private static void badNumbers(List<Call> calls) {
        for (int v : new int[] {0, 10, -1, LOW, HIGH}) {
            bad(calls, "time 0 " + v, x -> x.time(0, v));
        }
        for (int n : new int[] {0, -1, 1000, LOW, HIGH}) {
            bad(calls, "go " + n, x -> x.go(n));
        }
        for (int i : new int[] {-1, 64, LOW, HIGH}) {
            bad(calls, "happened " + i, x -> x.happened(i, 0));
        }
        for (int tick : new int[] {-1, 1000, LOW, HIGH}) {
            bad(calls, "drawn " + tick, x -> x.drawn(tick));
        }
        for (int bits : new int[] {-1, 512, LOW, HIGH}) {
            bad(calls, "holds 0 " + bits, x -> x.holds(0, bits));
            bad(calls, "down " + bits, x -> x.down(bits));
            bad(calls, "seen " + bits, x -> x.seen(bits));
        }
        bad(calls, "ahead 0 0", x -> x.ahead(0, 0, 0));
        bad(calls, "stagger 18", x -> x.stagger(18));
    }

    private static void badSheets(List<Call> calls) {
        for (int k : new int[] {-1, 4, LOW, HIGH}) {
            bad(calls, "sheet " + k, x -> x.sheet(k, 0, 1));
            bad(calls, "lay " + k, x -> x.lay(k, 0, 1));
            bad(calls, "measured " + k, x -> x.measured(k, 0, 0, 0, 0));
        }
        for (int lane : new int[] {-1, 3, LOW, HIGH}) {
            bad(calls, "sheet 0 lane " + lane, x -> x.sheet(0, lane, 1));
            bad(calls, "measured 0 lane " + lane, x -> x.measured(0, lane, 0, 0, 0));
        }
        bad(calls, "sheet of 41", x -> x.sheet(0, 0, 41));
        bad(calls, "sheet of many", x -> x.sheet(1, 1, HIGH));
        for (int n : new int[] {-1, 41, LOW, HIGH}) {
            bad(calls, "measured of " + n, x -> x.measured(0, 0, 0, n, 0));
        }
    }

    private static void fullTape() {
        for (int n = 393; n <= 400; n++) {
            int keep = n;
            STATES.put("full to " + n, join(STATES.get("full"), List.of(call("end", x -> x.end(keep)))));
            refuses("full to " + n, call("feed", x -> x.feed(-1L)), PowerRails.FULL);
        }
    }

    /** The tape is empty then, as if it had been cut, and the fault is told; nothing else changes. */
    private static void textRefused() {
        String[] texts = {"#", "limit 5;#", "rail a 9 9 draw 9 9 wait 9 within 9 fall 9 when (a", "limit 1;retry 9 9;limit 1;",
            "rail a 9 9;rail b 9 9;limit 0;", "rail a 1 1 when (((((((a", "rail a 9 9 when b;limit 1;retry 1 1;"};
        for (String state : STATES.keySet()) {
            for (String text : texts) {
                List<Call> before = join(STATES.get(state), List.of(call("end", x -> x.end(0))));
                List<Call> asked = join(before, told(text));
                Due.is(state + ": text " + text, answers(asked)[asked.size() - 1] < -9 ? 1 : 0, 1);
                twins(state + ": text " + text, join(asked, told("")), join(before, told("")));
                withoutFault(state + ": text " + text, asked, before);
            }
        }
    }

    private static void withoutFault(String name, List<Call> one, List<Call> other) {
        List<List<Call>> all = List.copyOf(LOOKS);
        LOOKS.clear();
        for (List<Call> look : all) {
            LOOKS.add(look.stream().filter(c -> !c.name().equals("fault")).toList());
        }
        twins(name, one, other);
        LOOKS.clear();
        LOOKS.addAll(all);
    }

    private static void lays() {
        for (int k = 0; k < 4; k++) {
            int sheet = k;
            for (int i : new int[] {-1, 40, LOW, HIGH}) {
                refuses("new", call("lay " + k + " " + i, x -> x.lay(sheet, i, 9)), -11);
                refuses("with sheets", call("lay " + k + " " + i, x -> x.lay(sheet, i, 9)), k == 2 ? -11 : -12);
            }
        }
        refuses("with sheets", call("lay behind five", x -> x.lay(0, 5, 9)), -12);
        refuses("with sheets", call("lay behind three", x -> x.lay(3, 3, 9)), -12);
        refuses("with sheets", call("measured of nothing", x -> x.measured(2, 0, 0, 1, 0)), -11);
        refuses("with sheets", call("measured as ints", x -> x.measured(0, 2, 0, 1, 0)), -13);
        refuses("with sheets", call("measured behind", x -> x.measured(0, 0, 5, 1, 0)), -12);
        refuses("with sheets", call("measured below 0", x -> x.measured(3, 2, 0, 1, 0)), -20);
        refuses("with sheets", call("measured above 9999", x -> x.measured(3, 2, 1, 1, 0)), -20);
    }

    private static void adoptRefused() {
        Call adopt = call("adopt", PowerRails::adopt);
        refuses("new", adopt, NONE);
        refuses("dead", adopt, NONE);
        refuses("held", adopt, NONE);
        refuses("held for good", adopt, NONE);
        refuses("eight, many ways", adopt, STATE);
    }

    private static void stateAndNone() {
        refuses("eight, many ways", call("stagger", x -> x.stagger(0)), STATE);
        refuses("eight, many ways", call("stagger of a", x -> x.stagger(10)), STATE);
        refuses("eight, many ways", call("peak 2", x -> x.peak(2)), STATE);
        refuses("eight, many ways", call("peak 3", x -> x.peak(3)), STATE);
        refuses("eight, many ways", call("ahead", x -> x.ahead(0, 1, 0)), -1002);
        refuses("eight, many ways", call("cut of h", x -> x.cut(7, 0)), STATE);
        refuses("eight, many ways", call("cut of a", x -> x.cut(0, 0)), NONE);
        refuses("eight, many ways", call("need of h", x -> x.need(7, 0)), STATE);
        refuses("eight, many ways", call("must of h", x -> x.must(7)), STATE);
        refuses("eight, many ways", call("when of h", x -> x.when(7, 0)), NONE);
        refuses("eight, many ways", call("ways", x -> x.count(3)), PowerRails.SPENT);
        refuses("dead", call("when", x -> x.when(0, 0)), NONE);
        refuses("dead", call("ahead", x -> x.ahead(0, 1, 0)), -1004);
        refuses("dead", call("peak 0", x -> x.peak(0)), NONE);
        refuses("dead", call("peak 2", x -> x.peak(2)), NONE);
        refuses("dead", call("stagger", x -> x.stagger(0)), NONE);
        refuses("rising", call("time below", x -> x.time(1, 1)), BAD);
        refuses("rising", call("time above", x -> x.time(1, 5)), BAD);
        refuses("rising", call("words of no set", x -> x.words(2, 12)), BAD);
        refuses("rising", call("holds with e", x -> x.holds(0, 16)), BAD);
        refuses("rising", call("down by e", x -> x.down(16)), BAD);
        refuses("rising", call("seen e", x -> x.seen(16)), BAD);
        refuses("rising", call("end behind all", x -> x.end(1)), BAD);
        refuses("held", call("stagger", x -> x.stagger(0)), NONE);
    }
}
