import java.lang.management.ManagementFactory;
import java.lang.reflect.Field;
import java.lang.reflect.Method;
import java.lang.reflect.Modifier;
import java.nio.file.Files;
import java.nio.file.Path;
import java.util.ArrayList;
import java.util.Arrays;
import java.util.List;
import java.util.Map;
import java.util.Set;
import java.util.TreeMap;
import java.util.TreeSet;
import java.util.regex.Matcher;
import java.util.regex.Pattern;

/** What LANGUAGE.md rules, as far as a test can see it: the face, fields, words, lengths, objects. */
public final class LanguageTest {
    private static final Path SOURCE = Path.of("src/main/java/EnvyRust.java");
    private static final Path DOCUMENT = Path.of("../shared/DOC.md");
    private static final String[] BARRED = {"throw", "throws", "try", "catch", "finally", "synchronized", "assert", "import", "package",
        "Object", "Thread", "hashCode", "toString", "volatile", "native", "goto", "double", "float", "var"};
    private static final Set<Class<?>> CONSTANT = Set.of(int.class, long.class, boolean.class, char.class, String.class,
        int[].class, long[].class, char[].class, byte[].class);
    private static final int DEEPEST = 8;
    private static int wrong = 0;

    public static void main(String[] args) throws Exception {
        face();
        members();
        source();
        objects();
        System.out.println(wrong + " against LANGUAGE.md");
        if (wrong != 0) {
            System.exit(1);
        }
    }

    private static void must(boolean is, String what) {
        if (!is) {
            wrong++;
            System.out.println(what);
        }
    }

    private static void face() throws Exception {
        Set<String> due = new TreeSet<>();
        Matcher line = Pattern.compile("(?m)^    public (\\w+) (\\w+)\\((.*)\\);$").matcher(Files.readString(DOCUMENT));
        while (line.find()) {
            String types = line.group(3).replaceAll(" \\w+(, |$)", "$1");
            due.add(line.group(1) + " " + line.group(2) + "(" + types + ")");
        }
        Set<String> got = new TreeSet<>();
        for (Method method : EnvyRust.class.getDeclaredMethods()) {
            if (!Modifier.isPrivate(method.getModifiers())) {
                String types = String.join(", ", Arrays.stream(method.getParameterTypes()).map(Class::getName).toList());
                got.add(method.getReturnType().getName() + " " + method.getName() + "(" + types + ")");
                must(method.getModifiers() == Modifier.PUBLIC, "not just public: " + method);
            }
        }
        must(due.size() == 50, "the document's face has " + due.size() + " methods");
        must(due.equals(got), "the face is " + got + ", due is " + due);
        must(EnvyRust.class.getDeclaredConstructors().length == 1, "more than one constructor");
        must(Modifier.isPublic(EnvyRust.class.getDeclaredConstructor().getModifiers()), "the constructor isn't public");
        must(Modifier.isFinal(EnvyRust.class.getModifiers()), "the class isn't final");
    }

    private static void members() {
        Set<String> names = new TreeSet<>();
        for (Method method : EnvyRust.class.getDeclaredMethods()) {
            if (Modifier.isPublic(method.getModifiers())) {
                names.add(method.getName());
            }
        }
        List<Class<?>> classes = new ArrayList<>(List.of(EnvyRust.class.getDeclaredClasses()));
        must(classes.size() <= 11, "too many classes: " + classes);
        for (Class<?> inside : classes) {
            must(Modifier.isStatic(inside.getModifiers()) && !Modifier.isPublic(inside.getModifiers()), "not so: " + inside);
        }
        classes.add(EnvyRust.class);
        for (Class<?> each : classes) {
            int own = 0;
            for (Field field : each.getDeclaredFields()) {
                must(each != EnvyRust.class || Modifier.isPrivate(field.getModifiers()), "not private: " + field);
                boolean fixed = Modifier.isStatic(field.getModifiers());
                must(!fixed || Modifier.isFinal(field.getModifiers()) && CONSTANT.contains(field.getType()), "no constant: " + field);
                own += fixed ? 0 : 1;
            }
            must(own <= 20, own + " fields in " + each);
            for (Method method : each.getDeclaredMethods()) {
                must(method.getParameterCount() <= 7, "more than 7 parameters: " + method);
                must(Modifier.isPublic(method.getModifiers()) || !names.contains(method.getName()), "a public one's name: " + method);
            }
        }
    }

    private static void source() throws Exception {
        String text = Files.readString(SOURCE).replaceAll("(?s)/\\*.*?\\*/", " ").replaceAll("//[^\n]*", " ");
        must(text.chars().allMatch(c -> c < 127), "a sign above 126");
        String code = text.replaceAll("\"[^\"\n]*\"", "\"\"");
        for (String word : BARRED) {
            must(!Pattern.compile("\\b" + word + "\\b").matcher(code).find(), "the word " + word);
        }
        for (String sign : new String[] {"->", "::", "@", "\"\" +", "+ \"\"", "Exact("}) {
            must(!code.contains(sign), "the sign " + sign);
        }
        lengths(Files.readString(SOURCE).split("\n"));
        depths(code);
    }

    /** How deep calls go, a name that two classes have taken as one; none comes back to itself. */
    private static void depths(String code) {
        Map<String, Set<String>> called = new TreeMap<>();
        Matcher method = Pattern.compile("(?ms)^( +)(?:public|private)[^;={}]* (\\w+)\\([^)]*\\) \\{$(.*?)^\\1\\}$").matcher(code);
        while (method.find()) {
            Set<String> names = called.computeIfAbsent(method.group(2), name -> new TreeSet<>());
            Matcher call = Pattern.compile("(\\w+)\\(").matcher(method.group(3));
            while (call.find()) {
                names.add(call.group(1));
            }
        }
        must(called.size() > 100, "only " + called.size() + " methods found");
        for (String name : called.keySet()) {
            int deep = depth(name, called, 0);
            must(deep <= DEEPEST, "calls from " + name + " on go " + deep + " deep, or come back");
        }
    }

    private static int depth(String name, Map<String, Set<String>> called, int open) {
        if (!called.containsKey(name) || open > DEEPEST) {
            return 0;
        }
        int deepest = 0;
        for (String next : called.get(name)) {
            deepest = Math.max(deepest, depth(next, called, open + 1));
        }
        return 1 + deepest;
    }

    private static void lengths(String[] lines) {
        int start = -1;
        String indent = "";
        for (int i = 0; i < lines.length; i++) {
            Matcher head = Pattern.compile("^( +)(public|private).*\\) \\{$").matcher(lines[i]);
            if (head.find()) {
                start = i;
                indent = head.group(1);
            } else if (start >= 0 && lines[i].equals(indent + "}")) {
                must(i - start < 60, "a long method: " + lines[start]);
                start = -1;
            }
        }
    }

    /** Rows are made with the object, once: no call makes anything. */
    private static void objects() {
        com.sun.management.ThreadMXBean threads = (com.sun.management.ThreadMXBean) ManagementFactory.getThreadMXBean();
        long least = Long.MAX_VALUE;
        for (int i = 0; i < 5; i++) {
            EnvyRust x = new EnvyRust();
            long before = threads.getCurrentThreadAllocatedBytes();
            callAll(x);
            least = Math.min(least, threads.getCurrentThreadAllocatedBytes() - before);
        }
        must(least == 0, "calls made objects of " + least + " bytes");
    }

    private static int callAll(EnvyRust x) {
        int sum = 0;
        for (int i = 0; i < 8; i++) {
            sum += x.thing(i % 4, i) + x.person(i % 7, i) + x.forge(i, 4, i) + x.forge(i, 5, i - 1) + x.hold(i, i) + x.change(i, 3, 5);
        }
        for (int i = 0; i < 8; i++) {
            sum += x.thingOf(i, i) + x.of(i, i) + x.envy(i, 0) + x.now(i) + x.ahead(i, 60) + x.lasts(i) + x.gone(i) + x.worn(i) + x.sees(i, 1);
            sum += x.kindFor(i, 60) + x.walkFor(i, 60) + x.placeFor(i, 60) + x.ownerFor(i, 60) + x.worst(60) + x.paint(i, 60) + x.needs(i, 60);
            sum += x.fallsWith(i) + x.depth(i) + x.keystone() + x.fells() + x.worth(i, 255) + x.deal(i, 2, 255) + x.deals(i, 2, 255);
            sum += x.lesser(i, 2, 255) + x.envious() + x.sheet(i, 8, 40) + x.write(i, i, -1) + x.copy(i, 0, 0, 5, 9) + x.fits(0, i, i);
            sum += x.likes(0, i, i) + x.judge(i) + (int) x.odds(i, 0) + x.seed(i) + x.as(i, i) + x.image() + x.count(i) + x.status(i);
            sum += x.feed(i, 4) + x.wipe() + x.feed(1667787116, 4) + x.feed('d', 1) + x.text() + x.load(0) + x.go(1) + x.strolls(2) + x.undo();
        }
        return sum + x.tear();
    }
}
