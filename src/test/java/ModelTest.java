import java.lang.reflect.InvocationTargetException;
import java.lang.reflect.Method;
import java.util.ArrayList;
import java.util.List;
import java.util.Random;

/** Random runs of 512 calls, in which every answer must be that of Model; none may throw. */
public final class ModelTest {
    private static final int RUNS = 400;
    private static final int CALLS = 512;
    private static final String[] WORDS = {"looker", "modest", "rival", "praiser", "thief", "child", "beggar", "thing", "at", "walks",
        "likes", "thick", "paint", "of", "on", "a"};
    /** Of these calls there are more, so that runs come to states of all sorts. */
    private static final String OFTEN = "thing person forge forge forge forge forge change change change write write sheet";

    private final Random random;
    private final EnvyRust x = new EnvyRust();
    private final Model model = new Model();
    private final StringBuilder story = new StringBuilder();
    private int wrong = 0;
    private int findings = 0;

    private ModelTest(int seed) {
        random = new Random(seed);
    }

    public static void main(String[] args) throws Exception {
        List<Method> calls = new ArrayList<>();
        for (Method method : EnvyRust.class.getDeclaredMethods()) {
            if (java.lang.reflect.Modifier.isPublic(method.getModifiers())) {
                calls.add(method);
            }
        }
        calls.sort((a, b) -> a.getName().compareTo(b.getName()));
        for (Method call : List.copyOf(calls)) {
            for (String word : OFTEN.split(" ")) {
                if (word.equals(call.getName())) {
                    calls.add(call);
                }
            }
        }
        int wrong = 0;
        int findings = 0;
        for (int run = 0; run < RUNS && wrong == 0; run++) {
            ModelTest test = new ModelTest(run);
            test.go(calls, run);
            wrong += test.wrong;
            findings += test.findings;
        }
        System.out.println(RUNS * CALLS + " random calls, " + findings + " findings, " + wrong + " not as due");
        if (wrong != 0) {
            System.exit(1);
        }
    }

    private void go(List<Method> calls, int run) throws Exception {
        if (run % 3 > 0) {
            populate(calls);
        }
        for (int i = 0; i < CALLS && wrong == 0; i++) {
            int pick = random.nextInt(100);
            if (pick < 6) {
                feedWords(calls);
            } else if (pick < 8) {
                tell(calls);
            } else {
                Method call = calls.get(random.nextInt(calls.size()));
                compare(call, arguments(call));
            }
        }
        if (wrong != 0) {
            System.out.println("run " + run + ":\n" + story);
        }
    }

    private static Method named(List<Method> calls, String name) {
        for (Method call : calls) {
            if (call.getName().equals(name)) {
                return call;
            }
        }
        throw new IllegalStateException(name);
    }

    private void populate(List<Method> calls) throws Exception {
        int things = random.nextInt(9);
        int people = random.nextInt(9);
        int places = 1 + random.nextInt(16);
        for (int i = 0; i < people; i++) {
            compare(named(calls, "person"), random.nextInt(7), random.nextInt(places));
            for (int what = 2; what <= 6; what++) {
                compare(named(calls, "change"), i, what, random.nextInt(10));
            }
        }
        for (int i = 0; i < things; i++) {
            compare(named(calls, "thing"), random.nextInt(4), random.nextInt(places));
            compare(named(calls, "forge"), i, 2, random.nextInt(1000));
            compare(named(calls, "forge"), i, 3, random.nextInt(10));
            compare(named(calls, "forge"), i, 4, random.nextInt(people + 1) - 1);
            compare(named(calls, "forge"), i, 5, random.nextInt(i + 1) - 1);
        }
    }

    /** A text of items as they should be, or nearly so, byte by byte. */
    private void feedWords(List<Method> calls) throws Exception {
        StringBuilder text = new StringBuilder();
        int items = 1 + random.nextInt(4);
        for (int i = 0; i < items; i++) {
            text.append(i == 0 ? "" : random.nextInt(30) == 0 ? " " : ";");
            item(text);
        }
        if (random.nextInt(4) == 0 && text.length() > 0) {
            int place = random.nextInt(text.length());
            String[] odd = {";", " ", "x", "7", "", "\u00e9", "99999999999", " at 3 ", "A"};
            text.replace(place, place + random.nextInt(2), odd[random.nextInt(odd.length)]);
        }
        if (random.nextBoolean()) {
            compare(named(calls, "wipe"));
        }
        for (int i = 0; i < text.length(); i += 4) {
            int bytes = 0;
            int n = Math.min(4, text.length() - i);
            for (int k = 0; k < n; k++) {
                bytes = bytes << 8 | text.charAt(i + k);
            }
            compare(named(calls, "feed"), bytes, n);
        }
        compare(named(calls, "text"));
    }

    private void item(StringBuilder text) {
        boolean thing = random.nextBoolean();
        text.append(thing ? "thing " + random.nextInt(random.nextInt(9) == 0 ? 6 : 4) : WORDS[random.nextInt(7)]);
        int[] most = {0, 0, 0, 0, 0, 0, 0, 0, 16, 16, 10, 1000, 10, 3, 3};
        for (int word = 8; word <= 14; word++) {
            boolean mine = thing ? word != 9 && word != 10 : word <= 10;
            if (random.nextInt(mine ? 2 : 60) != 0) {
                continue;
            }
            text.append(random.nextInt(3) == 0 ? "  " : " ").append(WORDS[word]);
            for (int k = 0; k < (word == 10 ? 4 : 1); k++) {
                int over = random.nextInt(20) == 0 ? 2 : 0;
                text.append(' ').append(random.nextInt(most[word] + over));
            }
        }
    }

    private Object[] arguments(Method call) {
        Object[] args = new Object[call.getParameterCount()];
        for (int i = 0; i < args.length; i++) {
            args[i] = argument(call.getName(), i);
        }
        boolean days = call.getName().equals("go") || call.getName().equals("strolls");
        if (days && random.nextInt(4) != 0) {
            args[0] = random.nextInt(3);
        }
        if (call.getName().equals("forge") && random.nextBoolean()) {
            args[1] = 2;
            args[2] = random.nextInt(random.nextBoolean() ? 1000 : 200);
        }
        return args;
    }

    /** What each call asks for, a letter an argument: see likely(). */
    private static final String ASKED = " thing sP thingOf t6 forge t5v person kP of p7 change p6v envy pt go n now 4 ahead th lasts t gone h"
        + " worn h sees pt kindFor pn walkFor pn placeFor tn ownerFor tn worst n paint 8n needs tn fallsWith t depth t worth pT deal pqT"
        + " deals pqT lesser pqT fits Spt likes Spt strolls n odds d1 seed v feed v4 hold o+ as ok sheet Sbl write Siv copy SjSjj load S"
        + " judge S count 7 status 6 ";

    private int argument(String call, int i) {
        if (random.nextInt(25) == 0) {
            int[] odd = {Integer.MIN_VALUE, Integer.MAX_VALUE, -1, -2, 8, 16, 41, 61, 101, 121, 256, 1000, -1000001, random.nextInt()};
            return odd[random.nextInt(odd.length)];
        }
        int at = ASKED.indexOf(" " + call + " ");
        return likely(ASKED.charAt(at + call.length() + 2 + i));
    }

    private int likely(char asked) {
        int things = model.now.things.size();
        int people = model.now.people.size();
        switch (asked) {
            case 't':
                return random.nextInt(Math.max(1, things));
            case 'p':
                return random.nextInt(Math.max(1, people));
            case 'q':
                return people - 1 - random.nextInt(Math.max(1, people));
            case '+':
                return random.nextInt(people + 1) - 1;
            case 'T':
                return random.nextInt(1 << things);
            case 'S':
                return random.nextInt(random.nextInt(4) == 0 ? 4 : 2);
            case 's':
                return random.nextInt(4);
            case 'k':
                return random.nextInt(7);
            case 'P':
                return random.nextInt(16);
            case 'o':
                return random.nextInt(random.nextBoolean() ? 10 : 3);
            case 'n':
                return random.nextInt(random.nextInt(3) == 0 ? 62 : 12);
            case 'h':
                return random.nextInt(random.nextInt(3) == 0 ? 102 : 12);
            case 'd':
                return random.nextInt(16);
            case 'b':
                return new int[] {0, 8, 16, 16, 16, 32, 24}[random.nextInt(7)];
            case 'l':
                return random.nextInt(random.nextBoolean() ? 43 : 9) - 1;
            case 'i':
                return random.nextInt(random.nextBoolean() ? 40 : 4);
            case 'j':
                return random.nextInt(random.nextBoolean() ? 20 : 5) - random.nextInt(2) * random.nextInt(2);
            case 'v':
                return random.nextInt(random.nextInt(3) == 0 ? 300 : 9) - random.nextInt(2);
            default:
                return random.nextInt(asked - '0' + 1);
        }
    }

    private void compare(Method call, Object... args) throws Exception {
        if (story.length() > 4000) {
            story.setLength(0);
            story.append("..\n");
        }
        long got = ask(call, x, args);
        Method due = Model.class.getDeclaredMethod(call.getName(), call.getParameterTypes());
        long want = model.act(() -> {
            try {
                return ask(due, model, args);
            } catch (IllegalAccessException e) {
                throw new IllegalStateException(e);
            } catch (InvocationTargetException e) {
                if (e.getCause() instanceof Model.Stop) {
                    throw (Model.Stop) e.getCause();
                }
                throw new IllegalStateException(e);
            }
        });
        story.append(call.getName()).append(java.util.Arrays.toString(args)).append(" = ").append(got).append('\n');
        if (want <= -1000001 && want >= -1000007) {
            findings++;
        }
        if (got != want) {
            wrong++;
            story.append("due is ").append(want).append('\n');
        }
    }

    /** Writes how a thing would wear if one liked it so on a sheet of both, and asks for it. */
    private void tell(List<Method> calls) throws Exception {
        int s = random.nextInt(4);
        if (model.now.things.isEmpty() || model.now.people.isEmpty()) {
            return;
        }
        int thing = random.nextInt(model.now.things.size());
        int person = random.nextInt(model.now.people.size());
        compare(named(calls, "sheet"), s, random.nextBoolean() ? 16 : 32, random.nextInt(41));
        Model.World behind = model.now.copy();
        behind.people.get(person).likes[behind.things.get(thing).sort] = random.nextInt(10);
        for (int i = 0; i < model.sheets[s].length; i++) {
            compare(named(calls, "write"), s, i, random.nextInt(8) == 0 ? -1 : behind.things.get(thing).thick);
            behind = behind.next();
        }
        compare(named(calls, "fits"), s, person, thing);
        compare(named(calls, "likes"), s, person, thing);
    }

    private static long ask(Method call, Object of, Object[] args) throws IllegalAccessException, InvocationTargetException {
        return ((Number) call.invoke(of, args)).longValue();
    }
}
