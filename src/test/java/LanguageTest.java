import java.io.IOException;
import java.lang.management.ManagementFactory;
import java.lang.reflect.Array;
import java.lang.reflect.Constructor;
import java.lang.reflect.Field;
import java.lang.reflect.Method;
import java.lang.reflect.Modifier;
import java.nio.file.Files;
import java.nio.file.Path;
import java.util.ArrayDeque;
import java.util.Collections;
import java.util.Deque;
import java.util.HashSet;
import java.util.IdentityHashMap;
import java.util.List;
import java.util.Set;
import java.util.TreeSet;
import java.util.regex.Matcher;
import java.util.regex.Pattern;

/** What of ../shared/LANGUAGE.md can be seen from outside: rules 1, 2, 4 to 6, 9, 11 and 12. */
public final class LanguageTest {
    private LanguageTest() {
    }

    public static void main(String[] args) throws IOException, IllegalAccessException {
        String source = Files.readString(Path.of("src/main/java/SleightHouse.java"));
        String bare = bare(source);
        words(bare);
        library(bare);
        methodsAreShort(source);
        face();
        members();
        room();
        callsMakeNothing();
        Due.finish();
    }

    /** Without comments, texts and signs. */
    private static String bare(String source) {
        String s = Pattern.compile("/\\*.*?\\*/", Pattern.DOTALL).matcher(source).replaceAll(" ");
        s = s.replaceAll("//[^\n]*", " ");
        s = s.replaceAll("\"(\\\\.|[^\"\\\\])*\"", "\"\"");
        return s.replaceAll("'(\\\\.|[^'\\\\])'", "0");
    }

    private static boolean has(String bare, String regex) {
        return Pattern.compile(regex).matcher(bare).find();
    }

    private static void words(String bare) {
        List<String> never = List.of("\\bthrows?\\b", "\\btry\\b", "\\bcatch\\b", "\\bsynchronized\\b", "\\bassert\\b",
            "->", "::", "\\bpackage\\b", "\\bstatic\\s*\\{", "\"\"\\s*\\+", "\\+\\s*\"\"", "Exact\\b", "\\bprotected\\b",
            "\\bwhile\\s*\\(\\s*true", "for\\s*\\(\\s*;", "\\[\\]\\s*\\[\\]\\s*\\[\\]", "\\bhashCode\\b", "\\btoString\\b",
            "\\bNaN\\b", "\\bdouble\\b", "\\bfloat\\b", "@");
        for (String regex : never) {
            Due.is("never in the source: " + regex, has(bare, regex), false);
        }
    }

    private static void library(String bare) {
        Matcher imports = Pattern.compile("import\\s+([\\w.*]+)\\s*;").matcher(bare);
        while (imports.find()) {
            boolean listed = List.of("java.util.Arrays", "java.util.ArrayList", "java.util.List").contains(imports.group(1));
            Due.is("import " + imports.group(1), listed, true);
        }
        Matcher calls = Pattern.compile("\\b(System|Arrays|Math|Integer|Long|String|StringBuilder)\\.(\\w+)").matcher(bare);
        Set<String> listed = Set.of("System.arraycopy", "Arrays.fill", "Arrays.copyOf", "Arrays.copyOfRange", "Math.max",
            "Math.min", "Math.abs", "Integer.bitCount", "Integer.compare");
        while (calls.find()) {
            Due.is("library: " + calls.group(), listed.contains(calls.group()), true);
        }
        for (int i = 0; i < bare.length(); i++) {
            Due.is("signs of the source", bare.charAt(i) < 128, true);
        }
    }

    private static void methodsAreShort(String source) {
        String[] lines = source.split("\n");
        for (int i = 0; i < lines.length; i++) {
            Matcher start = Pattern.compile("^( {4,8})(?!private static final class)\\S.*\\) \\{$").matcher(lines[i]);
            if (start.find()) {
                int end = i;
                while (!lines[end].equals(start.group(1) + "}")) {
                    end++;
                }
                Due.is("a short method: " + lines[i].trim(), end - i < 60, true);
            }
        }
    }

    private static String signature(Class<?> answer, String name, Class<?>[] parameters) {
        StringBuilder s = new StringBuilder(answer == null ? "" : answer.getSimpleName() + " ").append(name).append("(");
        for (int i = 0; i < parameters.length; i++) {
            s.append(i > 0 ? "," : "").append(parameters[i].getSimpleName());
        }
        return s.append(")").toString();
    }

    /** Just the members that the document's face has. */
    private static void face() throws IOException {
        String doc = Files.readString(Path.of("../shared/DOC.md"));
        Set<String> due = new TreeSet<>();
        Matcher lines = Pattern.compile("    public (?!static)([\\w ]*)\\((.*?)\\);").matcher(doc);
        while (lines.find()) {
            due.add(lines.group(1) + "(" + lines.group(2).replaceAll("(\\w+) \\w+(, )?", "$1,").replaceAll(",$", "") + ")");
        }
        Set<String> got = new TreeSet<>();
        for (Method method : SleightHouse.class.getDeclaredMethods()) {
            if (Modifier.isPublic(method.getModifiers())) {
                got.add(signature(method.getReturnType(), method.getName(), method.getParameterTypes()));
            }
        }
        for (Constructor<?> constructor : SleightHouse.class.getDeclaredConstructors()) {
            got.add(signature(null, "SleightHouse", constructor.getParameterTypes()));
        }
        Due.is("the face has 46 members", due.size(), 46);
        Due.is("the face: " + got + " and " + due, got.equals(due), true);
        Due.is("public and final", SleightHouse.class.getModifiers(), Modifier.PUBLIC | Modifier.FINAL);
    }

    private static void members() {
        Set<String> names = new HashSet<>();
        for (Method method : SleightHouse.class.getDeclaredMethods()) {
            if (Modifier.isPublic(method.getModifiers())) {
                names.add(method.getName());
            } else {
                Due.is("private: " + method, Modifier.isPrivate(method.getModifiers()), true);
            }
        }
        for (Field field : SleightHouse.class.getDeclaredFields()) {
            boolean listed = field.getName().equals("NONE") || Modifier.isPrivate(field.getModifiers());
            Due.is("private: " + field, listed, true);
        }
        Class<?>[] inside = SleightHouse.class.getDeclaredClasses();
        Due.is("some twelve classes", inside.length <= 12, true);
        Due.is("fields of the house", fieldsOf(SleightHouse.class) <= 20, true);
        for (Class<?> c : inside) {
            Due.is("static: " + c, Modifier.isStatic(c.getModifiers()), true);
            Due.is("not public: " + c, Modifier.isPublic(c.getModifiers()), false);
            Due.is("fields of " + c, fieldsOf(c) <= 20, true);
            for (Method method : c.getDeclaredMethods()) {
                Due.is("no public name: " + method, names.contains(method.getName()), false);
                Due.is("parameters: " + method, method.getParameterCount() <= 7, true);
            }
        }
    }

    private static int fieldsOf(Class<?> c) {
        int count = 0;
        for (Field field : c.getDeclaredFields()) {
            if (Modifier.isStatic(field.getModifiers())) {
                Due.is("final: " + field, Modifier.isFinal(field.getModifiers()), true);
            } else {
                count++;
            }
        }
        return count;
    }

    /** What one object holds, with its image: all calls of a run live in one room. */
    private static void room() throws IllegalAccessException {
        SleightHouse x = new SleightHouse();
        x.image(true);
        Set<Object> seen = Collections.newSetFromMap(new IdentityHashMap<>());
        Deque<Object> open = new ArrayDeque<>();
        open.add(x);
        seen.add(x);
        int cells = 0;
        while (!open.isEmpty()) {
            Object next = open.removeFirst();
            if (next.getClass().isArray()) {
                cells += Array.getLength(next);
                for (int i = 0; next instanceof Object[] && i < Array.getLength(next); i++) {
                    visit(Array.get(next, i), seen, open);
                }
                continue;
            }
            for (Field field : next.getClass().getDeclaredFields()) {
                if (!Modifier.isStatic(field.getModifiers())) {
                    cells++;
                    field.setAccessible(true);
                    visit(field.getType().isPrimitive() ? null : field.get(next), seen, open);
                }
            }
        }
        System.out.println("one object with its image: " + seen.size() + " objects, " + cells + " fields and elements");
        Due.is("few objects", seen.size() < 300, true);
        Due.is("few fields and elements", cells < 10000, true);
    }

    private static void visit(Object o, Set<Object> seen, Deque<Object> open) {
        if (o != null && seen.add(o)) {
            open.add(o);
        }
    }

    /** Every call of the face, many times; the first image alone may make something. */
    private static void callsMakeNothing() {
        SleightHouse x = new SleightHouse();
        x.image(true);
        com.sun.management.ThreadMXBean bean = (com.sun.management.ThreadMXBean) ManagementFactory.getThreadMXBean();
        everyCall(x);
        bean.getCurrentThreadAllocatedBytes();
        long before = bean.getCurrentThreadAllocatedBytes();
        for (int i = 0; i < 7; i++) {
            everyCall(x);
        }
        long made = bean.getCurrentThreadAllocatedBytes() - before;
        Due.is("bytes made by calls: " + made, made < 1024, true);
    }

    private static int everyCall(SleightHouse x) {
        int sum = x.state(3) + x.thing(2, 2, 2) + x.person(3, 3) + (x.set(0, 1, 4) ? 1 : 0) + x.puts(0, 0, 3);
        sum += x.search(0, 3) + (x.act(0, 0) ? 1 : 0) + (x.act(1, 0) ? 1 : 0) + x.hours(30);
        // "far 1+2*size;" and then a law with a fault
        sum += x.feed(0x66617220, 0x312b322a, 0x73697a65, 0x3b202020, 0x20202020) + (x.end(16) ? 1 : 0) + x.text(0);
        sum += x.feed(0x66617220, 0x312b322a, 0x73697a65, 0x3b202020, 0x20202020) + x.text(1) + x.fault(0);
        // "at 7 lock 3;" and "person 1 child of 0;"
        sum += x.feed(0x61742037, 0x206c6f63, 0x6b20333b, 0x20202020, 0x20202020) + x.text(2);
        sum += x.feed(0x70657273, 0x6f6e2031, 0x20636869, 0x6c64206f, 0x6620303b) + x.text(3);
        sum += x.place(3, 4) + x.of(0, 2) + x.who(0, 4) + x.tells(0, 0, 0, 1) + x.book(0, 0) + x.goes(60, 1);
        sum += x.where(0, 0, 5) + x.brings(0, 5) + x.swap(1, 2) + x.under(1) + x.under(-1) + x.under(-2) + x.pick(0);
        sum += x.card(30, 4) + x.card(30, -1) + x.box(3, 4) + x.boxes(0) + x.boxes(1) + x.key(0, 1) + x.opened(1);
        sum += x.opened(-1) + x.ring(40, 3, -1) + x.ring(40, 3, 7) + (x.gift(0, 1) ? 1 : 0) + x.heir(-1) + x.heir(0);
        sum += x.weighings(100, 1) + x.rings(20, 5) + x.hats(12, 3) + (x.mirror(3, 1) ? 1 : 0) + x.glance(3, 0);
        sum += x.clue(1, 1, false) + x.fits(-1) + x.fits(1) + x.share(3) + x.gets(100, 0) + x.row(9) + x.game(0);
        return sum + (x.undo() ? 1 : 0) + (x.image(true) ? 1 : 0) + (x.image(false) ? 1 : 0) + x.look(12);
    }
}
