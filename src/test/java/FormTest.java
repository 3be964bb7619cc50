import java.io.IOException;
import java.lang.management.ManagementFactory;
import java.lang.reflect.Constructor;
import java.lang.reflect.Field;
import java.lang.reflect.Method;
import java.lang.reflect.Modifier;
import java.nio.file.Files;
import java.nio.file.Path;
import java.util.ArrayList;
import java.util.HashSet;
import java.util.List;
import java.util.Set;
import java.util.TreeSet;
import java.util.regex.Matcher;
import java.util.regex.Pattern;

/** The face as the document has it, the rules of the language that show in the source, and the room that calls take. */
public final class FormTest {
    private static final Path SOURCE = Path.of("src/main/java/NeedleShop.java");
    private static final Path DOCUMENT = Path.of("../shared/DOC.md");

    private FormTest() {
    }

    public static void main(String[] args) throws IOException {
        face();
        members();
        String source = Files.readString(SOURCE);
        words(source);
        methods(source);
        room();
        Check.finish("FormTest");
    }

    private static String simple(Class<?>[] types) {
        StringBuilder all = new StringBuilder();
        for (Class<?> t : types) {
            all.append(all.length() > 0 ? "," : "").append(t.getSimpleName());
        }
        return all.toString();
    }

    /** Each public method of the document's block against the class's own, with types and exceptions. */
    private static void face() throws IOException {
        Set<String> due = new TreeSet<>();
        Pattern row = Pattern.compile("    public (int|boolean|void) (\\w+)\\(([^)]*)\\)(?: throws ([^;]*))?;");
        Matcher m = row.matcher(Files.readString(DOCUMENT));
        while (m.find()) {
            String types = m.group(3).replaceAll(" \\w+(,|$)", "$1").replace(" ", "");
            String thrown = m.group(4) == null ? "" : m.group(4).replace(" ", "");
            due.add(m.group(1) + " " + m.group(2) + "(" + types + ")" + thrown);
        }
        Set<String> got = new TreeSet<>();
        for (Method method : NeedleShop.class.getDeclaredMethods()) {
            if (!Modifier.isPrivate(method.getModifiers())) {
                got.add(method.getReturnType().getSimpleName() + " " + method.getName() + "("
                    + simple(method.getParameterTypes()) + ")" + simple(method.getExceptionTypes()));
            }
        }
        Check.due("52 methods in the document", due.size(), 52);
        Check.due("the face\n" + due + "\n" + got, got.equals(due), true);
        Check.due("public and final", NeedleShop.class.getModifiers(), Modifier.PUBLIC | Modifier.FINAL);
        Check.due("one constructor", NeedleShop.class.getDeclaredConstructors().length, 1);
        for (Constructor<?> c : NeedleShop.class.getDeclaredConstructors()) {
            Check.due("public, without arguments", c.getModifiers() * 10 + c.getParameterCount(), 10);
        }
        Check.due("NONE", NeedleShop.NONE, -1);
    }

    private static void members() {
        Set<String> open = new HashSet<>();
        for (Method m : NeedleShop.class.getDeclaredMethods()) {
            if (Modifier.isPublic(m.getModifiers())) {
                open.add(m.getName());
            }
        }
        for (Field f : NeedleShop.class.getDeclaredFields()) {
            Check.due("hidden: " + f, Modifier.isPrivate(f.getModifiers()) || f.getName().equals("NONE"), true);
        }
        List<Class<?>> all = new ArrayList<>(List.of(NeedleShop.class.getDeclaredClasses()));
        for (Class<?> inner : all) {
            Check.due("static: " + inner, Modifier.isStatic(inner.getModifiers()), true);
            Check.due("not public: " + inner, Modifier.isPublic(inner.getModifiers()), false);
        }
        all.add(NeedleShop.class);
        Check.due("twelve classes at most", all.size() <= 12, true);
        for (Class<?> c : all) {
            int own = 0;
            for (Field f : c.getDeclaredFields()) {
                boolean isStatic = Modifier.isStatic(f.getModifiers());
                Check.due("static is final: " + f, !isStatic || Modifier.isFinal(f.getModifiers()), true);
                own += isStatic ? 0 : 1;
            }
            Check.due("twenty fields at most: " + c, own <= 20, true);
            for (Method m : c.getDeclaredMethods()) {
                boolean face = c == NeedleShop.class && Modifier.isPublic(m.getModifiers());
                Check.due("no name of the face: " + m, face || !open.contains(m.getName()), true);
                Check.due("seven parameters at most: " + m, m.getParameterCount() <= 7, true);
            }
        }
    }

    private static void words(String source) {
        String[] never = {"->", "::", "\\btry\\b", "\\bcatch\\b", "\\bfinally\\b", "\\bsynchronized\\b", "\\bassert\\b",
            "\\bpackage\\b", "\\bMath\\.\\w*Exact", "\\bhashCode\\b", "\\btoString\\b", "\"\\s*\\+", "\\+\\s*\"", "\\bstatic\\s*\\{",
            "\\bvar\\b", "\\bdouble\\b", "\\bfloat\\b", "while \\(true\\)", "for \\(;;\\)", "\\bSystem\\.(?!arraycopy)", "\\bprotected\\b"};
        for (String word : never) {
            Check.due("without " + word, Pattern.compile(word).matcher(source).find(), false);
        }
        Matcher imports = Pattern.compile("(?m)^import (.*);$").matcher(source);
        while (imports.find()) {
            Check.due("import " + imports.group(1), imports.group(1).equals("java.util.NoSuchElementException"), true);
        }
        Matcher thrown = Pattern.compile("throw (.*);").matcher(source);
        while (thrown.find()) {
            Check.due(thrown.group(), thrown.group(1).matches("new (IllegalState|IllegalArgument|IndexOutOfBounds"
                + "|UnsupportedOperation|NoSuchElement)Exception\\(\"[a-z0-9 ]*\"\\)"), true);
        }
        Check.due("plain signs alone", source.chars().allMatch(c -> c == '\n' || c >= 32 && c < 127), true);
        Check.due("lines that can be read", source.lines().allMatch(l -> l.length() <= 125), true);
    }

    private static void methods(String source) {
        int from = -1;
        int indent = 0;
        String[] lines = source.split("\n");
        for (int i = 0; i < lines.length; i++) {
            Matcher head = Pattern.compile("^( {4}| {8})(?! )(?!.*\\bclass\\b).*\\{$").matcher(lines[i]);
            if (from < 0 && head.matches()) {
                from = i;
                indent = head.group(1).length();
            } else if (from >= 0 && lines[i].equals(" ".repeat(indent) + "}")) {
                Check.due("sixty lines at most: " + lines[from], i - from < 60, true);
                from = -1;
            }
        }
    }

    /** Calls that answer make no objects: a run's room is what its constructors took. */
    private static void room() {
        NeedleShop x = Check.lawful(Check.shop("kind a marks 1001 0110 1001 0110 holds b;person age 30 luck 4 under a;"
            + "person age 9 luck 1;person age 50 luck 4 under b;shake 50"), "come 30 if known or age>50 and not found;fame 5");
        var threads = (com.sun.management.ThreadMXBean) ManagementFactory.getThreadMXBean();
        long id = Thread.currentThread().getId();
        long sum = 0;
        long most = 0;
        for (int round = 0; round < 4; round++) {
            long before = threads.getThreadAllocatedBytes(id);
            sum += everyLook(x);
            most = threads.getThreadAllocatedBytes(id) - before;
        }
        Check.due("answers were asked for", sum != 0, true);
        Check.due("no objects in the last round: " + most, most < 2000, true);
    }

    private static long everyLook(NeedleShop x) {
        long sum = x.years(5) + x.fill(2) + x.wash(0) + x.told(0, 3) + x.hold(0, 2) + x.luck(0, 3) + x.seed(4);
        x.image();
        sum += (x.undo() ? 1 : 0) + (x.back() ? 1 : 0) + (x.blank(0) ? 1 : 0) + (x.ring(0) ? 1 : 0) + (x.mark(0, 1) ? 1 : 0);
        for (int what = 0; what < 11; what++) {
            sum += x.kind(0, what) + x.person(0, what) + x.count(what);
        }
        sum += x.reach(0, 0, 15) + x.turned(0, 1) + x.shifts(0, 1, true) + x.deepest() + x.now() + x.crew(7) + x.inks(6);
        x.feed(0x00000101, 0x02020000, 0, 0, 0);
        x.end(6);
        sum += x.berths(1);
        x.feed(0x00000101, 0x02020000, 0, 0, 0);
        x.end(4);
        sum += x.rules(true);
        x.feed(0x00000101, 0x02020000, 0, 0, 0);
        x.end(4);
        sum += x.ask();
        x.feed(0x00000101, 0x02000000, 0, 0, 0);
        x.end(4);
        sum += x.clash();
        sum += x.old(40) + x.pairs(0) + x.pairs(-1) + x.kin(0, 1) + x.rests(0) + x.odds(0, 4) + x.plain() + x.found();
        sum += x.soFar() + x.eldest() + x.famous() + x.twins() + x.tellers(1) + x.ahead(0, 60, 1) + x.trial(60, true);
        sum += x.span(60, true) + x.led(0, true) + x.log(0, 0) + x.fault();
        // "come 1 if found and " and "age > 3 or person<2 "
        x.feed(0x636F6D65, 0x20312069, 0x6620666F, 0x756E6420, 0x616E6420);
        x.feed(0x61676520, 0x3E203320, 0x6F722070, 0x6572736F, 0x6E3C3220);
        sum += x.law();
        return sum;
    }
}
