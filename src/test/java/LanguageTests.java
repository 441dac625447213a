import java.lang.management.ManagementFactory;
import java.lang.reflect.Constructor;
import java.lang.reflect.Field;
import java.lang.reflect.Method;
import java.lang.reflect.Modifier;
import java.nio.file.Files;
import java.nio.file.Path;
import java.util.ArrayList;
import java.util.Arrays;
import java.util.IdentityHashMap;
import java.util.List;
import java.util.Map;
import java.util.Set;
import java.util.TreeSet;
import java.util.regex.Matcher;
import java.util.regex.Pattern;

/** What LANGUAGE.md asks of the class, as far as a test can look at it: face, words, sizes, room. */
public final class LanguageTests {
    private static final String NSE = " NoSuchElementException";
    private static final String IAE = " IllegalArgumentException";
    private static final String[] FACE = {
        "int feed(int int int int int)", "int coast(int)" + IAE, "int law(int)" + IAE, "int work(int)" + IAE,
        "int log(int)" + IAE, "int fault()", "int undo()", "int told(int)" + IAE, "int cell(int int)" + NSE + IAE,
        "int light(int int)" + NSE + IAE, "int donkey(int int)" + NSE + IAE, "int ship(int int)" + NSE + IAE,
        "int seen(int int)" + NSE + IAE, "boolean would(int int int int int int int)" + NSE + IAE,
        "int tried(int int)" + NSE + IAE, "int safe()", "int put(int int)" + IAE, "int save(int)" + IAE,
        "int fits(int)" + IAE, "int look(int)" + IAE, "int code(int int)" + IAE, "int shortest()",
        "long wink(int int int int int int)" + IAE, "int carriers(int)" + IAE, "int share(int int)" + NSE + IAE,
        "int drawn(int)" + NSE, "int flash(int int)" + NSE + IAE, "int alike(int int int)" + NSE + IAE,
        "int blind(int)" + NSE, "int reefs(int)" + IAE, "int brightest(int)" + IAE, "int wrecks(int int)" + IAE,
        "int winter(int int int int)" + IAE, "int span(int int int int int)" + IAE, "int image()", "int restore()",
        "int status(int)", "int count(int)"};
    private static int wrong = 0;

    public static void main(String[] args) throws Exception {
        face();
        members();
        source(Files.readString(Path.of("src/main/java/DonkeyLight.java")));
        roomOfAnObject();
        roomOfCalls();
        System.out.println(wrong == 0 ? "the class is as LANGUAGE.md asks" : wrong + " things are not");
        System.exit(wrong == 0 ? 0 : 1);
    }

    private static void need(boolean so, String what) {
        if (!so) {
            wrong++;
            System.out.println("not so: " + what);
        }
    }

    private static void face() throws Exception {
        Set<String> found = new TreeSet<>();
        for (Method m : DonkeyLight.class.getDeclaredMethods()) {
            if (Modifier.isPublic(m.getModifiers())) {
                StringBuilder b = new StringBuilder(m.getReturnType() + " " + m.getName() + "(");
                for (int i = 0; i < m.getParameterCount(); i++) {
                    b.append(i > 0 ? " " : "").append(m.getParameterTypes()[i]);
                }
                b.append(")");
                for (Class<?> e : m.getExceptionTypes()) {
                    b.append(" ").append(e.getSimpleName());
                }
                found.add(b.toString());
            }
        }
        need(found.equals(new TreeSet<>(Arrays.asList(FACE))), "the face: " + found);
        need(DonkeyLight.class.getField("NONE").getInt(null) == -1, "NONE");
        need(DonkeyLight.class.getFields().length == 1, "one public constant");
        int modifiers = DonkeyLight.class.getModifiers();
        need(Modifier.isPublic(modifiers) && Modifier.isFinal(modifiers), "public and final");
        Constructor<?>[] all = DonkeyLight.class.getDeclaredConstructors();
        need(all.length == 1 && all[0].getParameterCount() == 0, "one constructor");
    }

    private static void members() {
        Set<String> names = new TreeSet<>();
        for (Method m : DonkeyLight.class.getDeclaredMethods()) {
            boolean isPublic = Modifier.isPublic(m.getModifiers());
            need(isPublic || Modifier.isPrivate(m.getModifiers()), m + " is private");
            need(!isPublic || names.add(m.getName()), m + " is one of its name");
        }
        List<Class<?>> classes = new ArrayList<>(Arrays.asList(DonkeyLight.class.getDeclaredClasses()));
        for (Class<?> c : classes) {
            need(Modifier.isStatic(c.getModifiers()) && !Modifier.isPublic(c.getModifiers()), c + " is static");
        }
        classes.add(DonkeyLight.class);
        need(classes.size() <= 12, "twelve classes at most: " + classes.size());
        for (Class<?> c : classes) {
            int fields = 0;
            for (Field f : c.getDeclaredFields()) {
                boolean isStatic = Modifier.isStatic(f.getModifiers());
                need(!isStatic || Modifier.isFinal(f.getModifiers()), f + " is final");
                need(c != DonkeyLight.class || f.getName().equals("NONE") || Modifier.isPrivate(f.getModifiers()),
                        f + " is private");
                fields += isStatic ? 0 : 1;
            }
            need(fields <= 20, "twenty fields at most: " + c);
            for (Method m : c.getDeclaredMethods()) {
                need(m.getParameterCount() <= 7, "seven parameters at most: " + m);
                need(c == DonkeyLight.class || !names.contains(m.getName()), m + " bears a public name");
            }
        }
    }

    private static void source(String text) {
        String bare = text.replaceAll("(?s)/\\*.*?\\*/", " ").replaceAll("//[^\n]*", " ").replaceAll("\"[^\"\n]*\"", "\"\"");
        need(text.chars().allMatch(c -> c == '\n' || c >= 32 && c < 127), "signs of ASCII alone");
        need(text.lines().filter(l -> l.startsWith("import")).allMatch(l -> l.equals("import java.util.NoSuchElementException;")),
                "one import");
        need(text.lines().noneMatch(l -> l.startsWith("package")), "no package");
        String[] never = {"catch", "try", "finally", "synchronized", "assert", "instanceof", "System", "Object", "Thread",
            "Random", "static \\{", "::", "->", "Exact", "hashCode", "toString", "equals", "goto", "volatile",
            "transient", "native", "double", "float", "\" \\+", "\\+ \"", "Integer\\.valueOf", "protected", "interface"};
        for (String word : never) {
            String at = word.matches("\\w+") ? "\\b" + word + "\\b" : word;
            need(!Pattern.compile(at).matcher(bare).find(), "no " + word);
        }
        Matcher thrown = Pattern.compile("throw\\b(?!s)([^;]*);").matcher(bare);
        while (thrown.find()) {
            need(thrown.group(1).matches(" new (NoSuchElementException|IllegalArgumentException)\\(\"\"\\)"),
                    "throw" + thrown.group(1));
        }
        Matcher made = Pattern.compile("new (\\w+)(.)").matcher(bare);
        while (made.find()) {
            need(made.group().matches("new (\\w*Exception|Row|Tape|Coast|Law|FlashLog|Work|Nights|Passing|Plans|Winter|History)\\(")
                    || made.group().equals("new int["), made.group());
        }
        int start = 0;
        List<String> lines = text.lines().toList();
        for (int i = 0; i < lines.size(); i++) {
            if (lines.get(i).matches(" {4,8}[\\w ]+\\(.*") && !lines.get(i).endsWith(";")) {
                start = i;
            }
            if (lines.get(i).matches(" {4,8}\\}")) {
                need(i - start < 60 || !lines.get(start).contains("("), "sixty lines at most: " + lines.get(start));
                start = i;
            }
        }
    }

    private static void roomOfAnObject() throws Exception {
        Map<Object, Boolean> objects = new IdentityHashMap<>();
        long room = count(new DonkeyLight(), objects);
        need(objects.size() <= 150, "objects of one: " + objects.size());
        need(room <= 6000, "fields and elements of one: " + room);
    }

    private static long count(Object o, Map<Object, Boolean> seen) throws Exception {
        if (o == null || seen.put(o, true) != null) {
            return 0;
        }
        if (o instanceof int[] row) {
            return row.length;
        }
        long all = 0;
        for (Field f : o.getClass().getDeclaredFields()) {
            if (!Modifier.isStatic(f.getModifiers())) {
                f.setAccessible(true);
                all += 1 + (f.getType().isPrimitive() ? 0 : count(f.get(o), seen));
            }
        }
        return all;
    }

    /** All rows are made with the object: calls that throw nothing make nothing. */
    private static void roomOfCalls() {
        com.sun.management.ThreadMXBean bean =
                (com.sun.management.ThreadMXBean) ManagementFactory.getThreadMXBean();
        if (!bean.isThreadAllocatedMemorySupported()) {
            return;
        }
        DonkeyLight x = new DonkeyLight();
        callAll(x);
        long before = bean.getThreadAllocatedBytes(Thread.currentThread().getId());
        for (int i = 0; i < 20; i++) {
            callAll(x);
        }
        long used = bean.getThreadAllocatedBytes(Thread.currentThread().getId()) - before;
        need(used < 20_000, "bytes that 20 rounds of calls made: " + used);
    }

    private static void callAll(DonkeyLight x) {
        // A coast with a fault, then "cell 9;ship 9 9 9 0;light 0 1;donkey 0 1;door 4;", a law, work and a log.
        x.feed(0x63656c6c, 0x20393b73, 0x68697020, 0x39203920, 0x39203b3b);
        need(x.coast(20) == -9, "the fault of the room test");
        x.feed(0x63656c6c, 0x20393b73, 0x68697020, 0x39203920, 0x39203020);
        x.feed(0x3b6c6967, 0x68742030, 0x20313b64, 0x6f6e6b65, 0x79203020);
        x.feed(0x313b646f, 0x6f722034, 0x3b202020, 0x20202020, 0x20202020);
        need(x.coast(60) == 1, "the coast of the room test");
        x.feed(0x6c656173, 0x745b7365, 0x656e2c28, 0x6461726b, 0x2b31295d);
        need(x.law(20) == 1, "the law of the room test");
        x.feed(0x70617373, 0x20303b66, 0x6f673b6e, 0x69676874, 0x3b202020);
        need(x.work(20) == 3, "the work of the room test");
        x.feed(0x3020313b, 0x3120303b, 0x20202020, 0x20202020, 0x20202020);
        need(x.log(20) == 2, "the log of the room test");
        int sum = x.fault() + x.told(7) + x.cell(0, 3) + x.light(0, 2) + x.donkey(0, 0) + x.ship(0, 5) + x.seen(0, 9);
        sum += x.would(0, 1, 0, 0, 0, 0, 0) ? 1 : 0;
        sum += x.tried(0, 1) + x.safe() + x.put(1, 1) + x.save(1) + x.fits(1) + x.look(1) + x.code(8, 1) + x.shortest();
        sum += (int) x.wink(1, 2, 3, 1, 2, 0) + x.carriers(2) + x.share(0, 9) + x.drawn(0) + x.flash(0, 9);
        sum += x.alike(0, 0, 1) + x.blind(0) + x.reefs(1) + x.brightest(1) + x.wrecks(1, 2);
        sum += x.winter(1, 96, 8, 1) + x.span(1, 20, 9, 8, 1) + x.image() + x.undo() + x.restore() + x.status(0) + x.count(0);
        need(sum != Integer.MIN_VALUE, "a sum");
    }
}
