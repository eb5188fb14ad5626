import java.io.IOException;
import java.lang.reflect.Method;
import java.lang.reflect.Modifier;
import java.net.URL;
import java.net.URLClassLoader;
import java.nio.file.Files;
import java.nio.file.Path;
import java.util.Set;
import java.util.TreeSet;
import java.util.regex.Matcher;
import java.util.regex.Pattern;
import java.util.stream.Stream;
import javax.tools.ToolProvider;

/** That README.md holds of the project as it stands: its example, its calls and constants, its tests. */
public final class ReadmeTest {
    private static final Pattern TOLD = Pattern.compile("int (\\w+) = .*;\\s+// (-?\\d+)\\b.*");

    public static void main(String[] args) throws Exception {
        String page = Files.readString(Path.of("README.md"));
        example(page);
        calls(page);
        constants(page);
        texts(page);
        tests(page);
        refusals();
        Due.close();
    }

    private static String block(String page, String language) {
        Matcher m = Pattern.compile("(?s)```" + language + "\n(.*?)```").matcher(page);
        Due.is("README has a block of " + language, m.find() ? 1 : 0, 1);
        return m.group(1);
    }

    /** The example is compiled and run; a number behind // is what the line ahead of it answers. */
    private static void example(String page) throws Exception {
        Due.says("README, the example");
        StringBuilder body = new StringBuilder();
        int told = 0;
        for (String line : block(page, "java").split("\n")) {
            body.append(line).append('\n');
            Matcher m = TOLD.matcher(line);
            if (m.matches()) {
                told++;
                body.append("wrong += " + m.group(1) + " == " + m.group(2) + " ? 0 : 1;\n");
            }
        }
        Due.is("lines with an answer", told, 10);
        Path room = Files.createTempDirectory("readme");
        Path source = room.resolve("Example.java");
        Files.writeString(source, "public final class Example { public static int wrong() { int wrong = 0;\n" + body
            + "return wrong; } }\n");
        int code = ToolProvider.getSystemJavaCompiler().run(null, null, null, "-cp", System.getProperty("java.class.path"),
            "-d", room.toString(), source.toString());
        Due.is("compiled", code, 0);
        if (code == 0) {
            try (URLClassLoader loader = new URLClassLoader(new URL[] {room.toUri().toURL()})) {
                Object wrong = loader.loadClass("Example").getMethod("wrong").invoke(null);
                Due.is("lines with another answer", (Integer) wrong, 0);
            }
        }
        try (Stream<Path> files = Files.list(room)) {
            for (Path file : (Iterable<Path>) files::iterator) {
                Files.delete(file);
            }
        }
        Files.delete(room);
    }

    /** Each call of the face has a row, with as many arguments as it has. */
    private static void calls(String page) {
        Due.says("README, the calls");
        Set<String> due = new TreeSet<>();
        for (Method m : PowerRails.class.getDeclaredMethods()) {
            if (Modifier.isPublic(m.getModifiers())) {
                due.add(m.getName() + " " + m.getParameterCount());
            }
        }
        Set<String> found = new TreeSet<>();
        Matcher rows = Pattern.compile("(?m)^\\| `(\\w+)\\(([^)]*)\\)` \\|").matcher(page);
        while (rows.find()) {
            found.add(rows.group(1) + " " + (rows.group(2).isEmpty() ? 0 : rows.group(2).split(",").length));
        }
        Due.same("rows", found.toString(), due.toString());
    }

    private static void constants(String page) throws Exception {
        Due.says("README, the constants");
        Matcher rows = Pattern.compile("(?m)^\\| `([A-Z]+)` \\| (-\\d+) \\|").matcher(page);
        int found = 0;
        while (rows.find()) {
            found++;
            Due.is(rows.group(1), PowerRails.class.getField(rows.group(1)).getInt(null), Integer.parseInt(rows.group(2)));
        }
        Due.is("constants", found, 5);
    }

    /** What the table of lines tells of bounds and of what holds if nothing is told. */
    private static void texts(String page) {
        Due.says("README, the text");
        PowerRails x = Due.of("rail a 1 9;");
        int[] untold = {1, 9, 1, 1, 2, 0, 0, 256};
        for (int what = 0; what < untold.length; what++) {
            Due.is("rail " + what, x.rail(0, what), untold[what]);
        }
        Due.is("limit", x.rule(0), 999);
        Due.is("retry", x.rule(1), 0);
        Due.is("behind", x.rule(2), 5);
        Matcher rows = Pattern.compile("(?m)^\\| .. `(fall|draw|wait|within) N.*?(\\d+) to (\\d+)").matcher(page);
        int found = 0;
        while (rows.find()) {
            found++;
            int least = Integer.parseInt(rows.group(2));
            int most = Integer.parseInt(rows.group(3));
            boolean two = rows.group(1).equals("draw");
            bound(rows.group(1), least, two, 1);
            bound(rows.group(1), most, two, 1);
            bound(rows.group(1), most + 1, two, -1);
            if (least > 0) {
                bound(rows.group(1), least - 1, two, -1);
            }
        }
        Due.is("withs", found, 4);
    }

    private static void bound(String with, int v, boolean two, int due) {
        String text = "rail a 1 1 " + with + " " + v + (two ? " " + v : "") + ";";
        Due.is(text, Integer.signum(Due.tell(new PowerRails(), text)), due);
    }

    /** Each test there is has a row, and each row a test; the script that runs them can be run. */
    private static void tests(String page) throws IOException {
        Due.says("README, the tests");
        Set<String> due = new TreeSet<>();
        try (Stream<Path> files = Files.list(Path.of("src/test/java"))) {
            files.map(f -> f.getFileName().toString()).filter(f -> f.endsWith(".java"))
                .forEach(f -> due.add(f.substring(0, f.length() - ".java".length())));
        }
        Set<String> found = new TreeSet<>();
        Matcher names = Pattern.compile("`(\\w+)`|`(Due)\\.says").matcher(page.substring(page.indexOf("## Tests")));
        while (names.find()) {
            found.add(names.group(1) == null ? names.group(2) : names.group(1));
        }
        found.removeAll(Set.of("javac", "java"));
        Due.same("files", found.toString(), due.toString());
        Due.is(".ci/run can be run", Files.isExecutable(Path.of(".ci/run")) ? 1 : 0, 1);
    }

    /** Answers below 0 that README tells to be no refusals. */
    private static void refusals() {
        Due.says("README: Not every answer below 0 is a refusal");
        PowerRails x = Due.of("rail a 1 1 draw 3 9;rail b 5 5;limit 9;");
        Due.is("b is never ahead", x.ahead(0, 1, 1), -4);
        Due.is("no row", x.count(5), PowerRails.NONE);
        x.sheet(0, 0, 0);
        Due.is("no cell differs", x.measured(0, 0, 0, 0, 1), PowerRails.NONE);
        x.key(true);
        Due.is("trips", x.go(1), 1);
        Due.is("held without end", x.now(4), PowerRails.NONE);
        Due.is("the rail of a trip", x.happened(4, 1), PowerRails.NONE);
    }
}
