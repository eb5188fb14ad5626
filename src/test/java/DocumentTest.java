import java.io.IOException;
import java.lang.reflect.Method;
import java.lang.reflect.Modifier;
import java.nio.file.Files;
import java.nio.file.Path;
import java.util.ArrayList;
import java.util.Arrays;
import java.util.List;

/** The whole document, sentence by sentence from its first line on; the terms and the calls have files of their own. */
public final class DocumentTest {
    private static final int NONE = PowerRails.NONE;

    public static void main(String[] args) throws IOException {
        Document.open();
        whatItIs();
        whatItTellsAhead();
        whatItTellsOfDeath();
        calls512();
        face();
        answers();
        DocumentTerms.all();
        interfaceSays();
        DocumentCalls.all();
        notPromised();
        Document.close();
        Due.close();
    }

    private static void whatItIs() {
        Document.passes("# PowerRails ## What it is");
        Document.says("Rails that come up: power rails that rise when others are good, by formulas told in a text, "
            + "after waits, within times that vary;");
        PowerRails x = Due.of("rail a 2 3;rail b 1 4 wait 2 draw 5 9 when a;");
        Due.is("b's formula", x.rail(1, 7), 1);
        Due.is("b's wait", x.rail(1, 5), 2);
        Due.is("b at the earliest", x.when(1, 1), 5);
        Due.is("b at the latest", x.when(1, 2), 9);
        Document.says("tick by tick what waits, rises, is good, falls, is dead;");
        x.key(true);
        x.go(1);
        Due.is("a rises", x.is(0, 0), 2);
        x.go(2);
        Due.is("a is good", x.is(0, 0), 3);
        Due.is("b waits", x.is(1, 0), 1);
        x.dead(0, true);
        x.go(1);
        Due.is("a falls", x.is(0, 0), 4);
        Due.is("a is dead", x.is(0, 2), 1);
        Document.says("what all of it draws, more while it rises;");
        x = Due.of("rail a 2 2 draw 3 5;rail b 1 1 draw 4 6 when a;");
        x.key(true);
        int[] due = {5, 5, 9, 7};
        for (int t = 0; t < due.length; t++) {
            x.go(1);
            Due.is("drawn at " + t, x.now(3), due[t]);
        }
        Document.says("a limit that trips everything, times within which a rail must be good, tries again, "
            + "what happened when;");
        x = Due.of("rail a 1 1 draw 5 9;rail b 1 1 draw 5 9 when a;limit 13;");
        x.key(true);
        Due.is("trips", x.go(3), 1);
        Due.same("what happened", Due.history(x), "0a1 0a2 1a3 1b1 1b2 1*6 1a4 1b4 2a0 2b0");
        x = Due.of("rail a 5 5 within 3;retry 1 4;");
        x.key(true);
        Due.is("trips", x.go(11), 2);
        Due.same("what happened", Due.history(x), "0a1 0a2 3*7 3a4 4a0 7a1 7a2 10*7 10a4");
    }

    private static void whatItTellsAhead() {
        Document.says("rings of rails that wait for one another;");
        PowerRails x = Due.of("rail a 1 1 when b;rail b 1 1 when a;rail c 1 1;");
        Due.is("ring", x.up(1), 3);
        x.key(true);
        x.go(99);
        Due.is("good", x.now(1), 4);
        Document.says("the earliest and the latest at which each can be good, by all times there are, "
            + "which one is always good ahead of which, the greatest draw;");
        x = Due.of("rail a 1 3 draw 1 4;rail b 2 4 draw 1 4;rail c 1 1 draw 1 4 when a & b;");
        Due.is("ways", x.count(3), 9);
        Due.is("c at the earliest", x.when(2, 1), 3);
        Due.is("c at the latest", x.when(2, 2), 5);
        Due.is("a ahead of c", x.ahead(0, 2, 0), 2);
        Due.is("a ahead of b", x.ahead(0, 1, 0), 0);
        Due.is("b ahead of a by", x.ahead(0, 1, 1), 1);
        Due.is("greatest", x.peak(2), 8);
        Document.says("waits set so that the draw stays below the limit and all is up soonest;");
        x = Due.of("rail a 2 2 draw 1 6;rail b 1 1 draw 1 6;limit 7;");
        Due.is("adopt", x.adopt(), 3);
        Due.is("a's wait", x.rail(0, 5), 0);
        Due.is("b's wait", x.rail(1, 5), 2);
        x.key(true);
        Due.is("trips", x.go(4), 0);
        Due.is("good", x.now(1), 3);
        Due.is("greatest draw", x.now(6), 7);
    }

    private static void whatItTellsOfDeath() {
        Document.says("what goes down when some die, the fewest by whose death one goes down, "
            + "the fewest without which it still can be;");
        PowerRails x = Due.of("rail a 1 1;rail b 1 1;rail c 1 1 when a | b;rail d 1 1 when c;");
        Due.is("down by a", x.down(1), 1);
        Due.is("down by a, b", x.down(3), 15);
        Due.is("cut of c", x.cut(2, 1), 3);
        Due.is("cut of d", x.cut(3, 1), 4);
        Due.is("need of d", x.need(3, 1), 13);
        Document.says("which dead one explains what is seen;");
        Due.is("b, c, d are seen", x.seen(14), 1);
        Due.is("a, b are seen", x.seen(3), 4);
        Due.is("all are seen", x.seen(15), 256);
        Document.says("the formula in other words;");
        x = Due.of("rail a 1 1;rail b 1 1;rail c 1 1 when (a | b) & key;");
        Due.is("sets", x.words(2, 0), 2);
        Due.is("a, key", x.words(2, 10), 257);
        Due.is("b, key", x.words(2, 11), 258);
        Document.says("draws of a day read from sheets whose faults the machine finds.");
        x = Due.of("rail a 2 2 draw 3 5;");
        x.sheet(0, 2, 4);
        int[] row = {5, 5, 3, 3};
        for (int i = 0; i < row.length; i++) {
            x.lay(0, i, row[i]);
        }
        Due.is("as drawn", x.measured(0, 2, 0, 4, 0), 4);
        Due.is("nothing", x.measured(1, 2, 0, 4, 0), -11);
        Due.is("index", x.measured(0, 2, 1, 4, 0), -12);
        Due.is("cast", x.measured(0, 1, 0, 4, 0), -13);
        Due.is("size", x.sheet(1, 2, -1), -14);
    }

    private static void calls512() {
        Document.says("An object is used for at most 512 calls after it has been made; what later calls answer is free.");
        PowerRails x = new PowerRails();
        for (int call = 1; call <= 512; call++) {
            if (call % 4 == 1) {
                Due.is("call " + call, x.feed(Due.eight("limit 7;", 0)), 8);
            } else if (call % 4 == 2) {
                Due.is("call " + call, x.text(), 1);
            } else {
                Due.is("call " + call, x.go(999), 0);
            }
        }
    }

    /** The face as the document writes it, each part by itself. */
    private static void face() {
        Document.passes("## The public face");
        String written = Document.until("## Terms");
        Due.says("The public face");
        if (written.isEmpty()) {
            return;
        }
        Due.same("class", written.substring(0, written.indexOf('{')).trim(), "public final class PowerRails");
        String[] parts = written.substring(written.indexOf('{') + 1, written.lastIndexOf('}')).split(";");
        List<String> due = new ArrayList<>();
        for (String part : parts) {
            if (!part.isBlank()) {
                due.add(part.trim());
            }
        }
        Due.same("constants", due.get(0), "public static final int BAD = " + PowerRails.BAD + ", STATE = "
            + PowerRails.STATE + ", FULL = " + PowerRails.FULL + ", NONE = " + NONE + ", SPENT = " + PowerRails.SPENT);
        Due.same("constructor", due.get(1), "public PowerRails()");
        List<String> calls = new ArrayList<>(due.subList(2, due.size()));
        List<String> found = new ArrayList<>();
        for (Method m : PowerRails.class.getDeclaredMethods()) {
            if (Modifier.isPublic(m.getModifiers())) {
                found.add(m.getReturnType() + " " + m.getName() + Arrays.toString(m.getParameterTypes()));
            }
        }
        calls.replaceAll(DocumentTest::withoutNames);
        calls.sort(null);
        found.sort(null);
        Due.same("calls", String.join("\n", found), String.join("\n", calls));
    }

    /** "public int rail(int r, int what)" as "int rail[int, int]". */
    private static String withoutNames(String call) {
        int open = call.indexOf('(');
        String inside = call.substring(open + 1, call.indexOf(')'));
        String types = inside.replaceAll("(\\w+) \\w+", "$1");
        return call.substring("public ".length(), open) + "[" + types + "]";
    }

    private static void answers() {
        Document.passes("## Terms");
        Document.says("Answers: BAD -1 (a number is not as told, there is no such RAIL, HAPPENING, SHEET), "
            + "STATE -2 (as told), FULL -3, NONE -4 (there is none), SPENT -6,");
        PowerRails x = Due.of("rail a 1 1;rail b 1 1 when b;");
        Due.is("a number not as told", x.go(0), -1);
        Due.is("no such rail", x.rail(2, 0), -1);
        Due.is("no such happening", x.happened(0, 0), -1);
        Due.is("no such sheet", x.sheet(4, 0, 1), -1);
        Due.is("state", x.cut(1, 0), -2);
        for (int i = 0; i < 50; i++) {
            x.feed(i);
        }
        Due.is("full", x.feed(50), -3);
        Due.is("there is none", x.when(1, 0), -4);
        x = Due.of("rail a 1 9;rail b 1 9;rail c 1 9;rail d 1 9;rail e 1 9;");
        Due.is("spent", x.count(3), -6);
        Document.says("the first that fits;");
        Due.is("BAD and STATE", x.peak(4), -1);
        x.dead(0, true);
        Due.is("STATE and NONE", x.ahead(0, 1, 0), -1002);
        Due.is("BAD, STATE and NONE", x.ahead(0, 0, 0), -1000);
        Document.says("what is refused changes nothing (but THE TAPE, as told).");
        x = Due.of("rail a 1 1;limit 7;");
        x.key(true);
        x.go(2);
        Due.feed(x, "rail a 9 9;limit 8");
        Due.is("a refused end", x.end(19), -1);
        Due.is("tape", x.count(4), 18);
        Due.is("a refused text", x.text(), -28);
        Due.is("tape", x.count(4), 0);
        Due.is("limit", x.rule(0), 7);
        Due.is("tick", x.now(0), 2);
        Due.is("good", x.now(1), 1);
        Due.is("a refused time", x.time(0, 2), -1);
        Due.is("takes", x.is(0, 3), 1);
    }

    private static void interfaceSays() throws IOException {
        Document.says("Ahead of the calls `feed`, `end`, `text`, `fault`, `rail`, `rule`, `holds`, `words` "
            + "the interface says: ---- the text.");
        ahead("the text", "feed end text fault rail rule holds words");
        Document.says("Ahead of the calls `key`, `dead`, `time`, `go`, `now`, `is`, `happened` "
            + "the interface says: ---- as it goes.");
        ahead("as it goes", "key dead time go now is happened");
        Document.says("Ahead of the calls `up`, `when`, `ahead`, `drawn`, `peak`, `stagger`, `adopt` "
            + "the interface says: ---- what is sure.");
        ahead("what is sure", "up when ahead drawn peak stagger adopt");
        Document.says("Ahead of the calls `down`, `cut`, `need`, `must`, `seen` the interface says: ---- what dies.");
        ahead("what dies", "down cut need must seen");
        Document.says("Ahead of the calls `sheet`, `lay`, `measured`, `count` the interface says: ---- sheets.");
        ahead("sheets", "sheet lay measured count");
    }

    /** The calls that stand in the source between one such comment and the next. */
    private static void ahead(String comment, String calls) throws IOException {
        StringBuilder found = new StringBuilder();
        boolean here = false;
        for (String line : Files.readString(Path.of("src/main/java/PowerRails.java")).split("\n")) {
            if (line.startsWith("    // ---- ")) {
                here = line.equals("    // ---- " + comment);
            } else if (here && line.startsWith("    public int ")) {
                found.append(' ').append(line, "    public int ".length(), line.indexOf('('));
            }
        }
        Due.same(comment, found.toString().trim(), calls);
    }

    private static void notPromised() {
        Document.passes("## Not promised");
        Document.passes("How the state is held inside the object is free, as are the speed of each call, "
            + "the text of toString and the behaviour of equals and hashCode.");
        Document.passes("Use of one object from several threads at once is not promised to be safe.");
        Document.passes("Nothing is promised beyond the answers and state changes described above, "
            + "and nothing about an object after its 512th call.");
    }
}
