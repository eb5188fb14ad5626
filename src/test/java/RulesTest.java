import java.io.IOException;
import java.lang.management.ManagementFactory;
import java.lang.reflect.Field;
import java.lang.reflect.Member;
import java.lang.reflect.Method;
import java.lang.reflect.Modifier;
import java.nio.file.Files;
import java.nio.file.Path;
import java.util.Set;
import java.util.TreeSet;
import java.util.regex.Matcher;
import java.util.regex.Pattern;

/** What LANGUAGE.md asks of the source, as far as a plain look can tell, and the face of the document. */
public final class RulesTest {
    private static final String FACE = "feed(long) end(int) text() fault() rail(int,int) rule(int) holds(int,int) "
        + "words(int,int) key(boolean) dead(int,boolean) time(int,int) go(int) now(int) is(int,int) happened(int,int) "
        + "up(int) when(int,int) ahead(int,int,int) drawn(int) peak(int) stagger(int) adopt() down(int) cut(int,int) "
        + "need(int,int) must(int) seen(int) sheet(int,int,int) lay(int,int,int) measured(int,int,int,int,int) count(int)";

    public static void main(String[] args) throws IOException {
        face();
        inside();
        source();
        methodLengths();
        noObjectsInCalls();
        Due.close();
    }

    private static void yes(String what, boolean is) {
        Due.is(what, is ? 1 : 0, 1);
    }

    private static String signature(Method m) {
        StringBuilder s = new StringBuilder(m.getName()).append('(');
        for (Class<?> p : m.getParameterTypes()) {
            s.append(s.charAt(s.length() - 1) == '(' ? "" : ",").append(p.getName());
        }
        return s.append(')').toString();
    }

    private static void face() {
        Set<String> due = new TreeSet<>(Set.of(FACE.split(" ")));
        Set<String> found = new TreeSet<>();
        Set<String> names = new TreeSet<>();
        for (Method m : PowerRails.class.getDeclaredMethods()) {
            if (Modifier.isPublic(m.getModifiers())) {
                found.add(signature(m));
                names.add(m.getName());
                yes(m.getName() + " answers an int", m.getReturnType() == int.class && !Modifier.isStatic(m.getModifiers()));
            }
        }
        yes("the face is " + found, found.equals(due));
        for (Method m : PowerRails.class.getDeclaredMethods()) {
            boolean open = Modifier.isPublic(m.getModifiers());
            yes(m.getName() + " is private", open || hidden(m) && !names.contains(m.getName()));
        }
        Set<String> constants = new TreeSet<>();
        for (Field f : PowerRails.class.getDeclaredFields()) {
            if (Modifier.isPublic(f.getModifiers())) {
                constants.add(f.getName());
            } else {
                yes(f.getName() + " is private", hidden(f));
            }
        }
        yes("constants " + constants, constants.equals(Set.of("BAD", "STATE", "FULL", "NONE", "SPENT")));
        yes("one constructor", PowerRails.class.getDeclaredConstructors().length == 1);
        yes("public and final", (PowerRails.class.getModifiers() & (Modifier.PUBLIC | Modifier.FINAL)) == 17);
    }

    private static boolean hidden(Member m) {
        return Modifier.isPrivate(m.getModifiers()) || m.isSynthetic();
    }

    private static void inside() {
        Class<?>[] classes = PowerRails.class.getDeclaredClasses();
        yes("at most twelve classes", classes.length + 1 <= 12);
        Set<String> face = new TreeSet<>(Set.of(FACE.replaceAll("\\([^)]*\\)", "").split(" ")));
        for (Class<?> c : classes) {
            yes(c + " is static", Modifier.isStatic(c.getModifiers()));
            yes(c + " is not open", !Modifier.isPublic(c.getModifiers()) && !Modifier.isProtected(c.getModifiers()));
            int fields = 0;
            for (Field f : c.getDeclaredFields()) {
                fields += Modifier.isStatic(f.getModifiers()) ? 0 : 1;
                yes(f + " if static is final", !Modifier.isStatic(f.getModifiers()) || Modifier.isFinal(f.getModifiers()));
            }
            yes(c + " has at most twenty fields", fields <= 20);
            for (Method m : c.getDeclaredMethods()) {
                yes(m + " has at most seven parameters", m.getParameterCount() <= 7);
                yes(m + " bears no name of the face", !face.contains(m.getName()));
            }
        }
    }

    private static String read() throws IOException {
        return Files.readString(Path.of("src/main/java/PowerRails.java"));
    }

    /** The source without its comments and without what stands in texts. */
    private static String bare() throws IOException {
        return read().replaceAll("(?s)/\\*.*?\\*/", "").replaceAll("//[^\n]*", "").replaceAll("\"[^\"\n]*\"", "\"\"");
    }

    private static void source() throws IOException {
        String s = bare();
        String[] words = {"throw", "throws", "try", "catch", "finally", "synchronized", "assert", "package", "native",
            "volatile", "transient", "Object", "hashCode", "var", "Exception", "Random", "Thread", "Float", "Double"};
        for (String word : words) {
            yes("without " + word, !Pattern.compile("\\b" + word + "\\b").matcher(s).find());
        }
        String[] signs = {"->", "::", "@", "\" +", "+ \"", "Exact(", "static {"};
        for (String sign : signs) {
            yes("without " + sign, !s.contains(sign));
        }
        Matcher imports = Pattern.compile("import ([^;]+);").matcher(s);
        while (imports.find()) {
            yes("import " + imports.group(1), imports.group(1).matches("java\\.util\\.(Arrays|ArrayList|List)"));
        }
        Matcher library = Pattern.compile("\\b(System|Math|Integer|Long|Arrays)\\.(\\w+)").matcher(s);
        while (library.find()) {
            yes("library " + library.group(), Set.of("System.arraycopy", "Math.abs", "Math.max", "Math.min",
                "Integer.bitCount", "Arrays.fill").contains(library.group()));
        }
        for (int i = 0; i < s.length(); i++) {
            if (s.charAt(i) > 126) {
                yes("plain signs at " + i, false);
            }
        }
    }

    private static void methodLengths() throws IOException {
        int begun = -1;
        String[] lines = read().split("\n");
        for (int i = 0; i < lines.length; i++) {
            if (lines[i].matches(" {4,8}[\\w\\[\\] ]+\\([^;]*\\) \\{")) {
                begun = i;
            } else if (lines[i].matches(" {4,8}}") && begun >= 0) {
                yes("length of " + lines[begun].trim(), i - begun < 60);
                begun = -1;
            }
            yes("width of line " + (i + 1), lines[i].length() <= 120);
        }
    }

    /** All calls of a run live in one room, so a call makes nothing. */
    private static void noObjectsInCalls() {
        PowerRails x = Due.of("rail a 1 4;rail b 1 4 when a;rail c 1 4 when a | b;rail d 1 3 when b & (c | key);limit 7;");
        callAll(x);
        com.sun.management.ThreadMXBean bean = (com.sun.management.ThreadMXBean) ManagementFactory.getThreadMXBean();
        long id = Thread.currentThread().getId();
        bean.getThreadAllocatedBytes(id);
        long before = bean.getThreadAllocatedBytes(id);
        for (int i = 0; i < 100; i++) {
            callAll(x);
        }
        long made = bean.getThreadAllocatedBytes(id) - before;
        yes("calls made " + made + " bytes", made < 20000);
    }

    private static void callAll(PowerRails x) {
        x.feed(0x7261696C20612031L);
        x.feed(0x20313B2020202020L);
        x.end(3);
        x.text();
        x.words(3, 0);
        x.dead(0, true);
        x.dead(0, false);
        x.key(true);
        x.go(20);
        x.when(2, 2);
        x.ahead(1, 2, 0);
        x.peak(2);
        x.adopt();
        x.cut(3, 1);
        x.need(3, 1);
        x.must(3);
        x.seen(3);
        x.sheet(0, 1, 40);
        x.lay(0, 1, 5);
        x.measured(0, 1, 0, 40, 2);
    }
}
