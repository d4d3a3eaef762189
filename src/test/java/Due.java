import java.util.function.IntToLongFunction;
import java.util.function.LongSupplier;

/** Compares answers with those that are due, promise by promise, and counts what is wrong. */
final class Due {
    static final int BEYOND = -1000001;
    static final int FULL = -1000002;
    static final int KIND = -1000003;
    static final int NONE = -1000004;
    static final int STATE = -1000005;
    static final int MISSING = -1000006;
    static final int SIZE = -1000007;

    private String title = "";
    private int answers = 0;
    private int wrong = 0;
    private int answersAhead = -1;

    /** What follows is about this promise. */
    void promise(int number, String words) {
        title = "promise " + number + " (" + words + ")";
    }

    /** What follows, up to the next one, is the test of this sentence of a promise (of 0: Terms). */
    void says(int number, String sentence) {
        testedLast();
        title = (number == 0 ? "Terms" : "promise " + number) + ", \"" + sentence + "\"";
        answersAhead = answers;
    }

    private void testedLast() {
        if (answers == answersAhead) {
            wrong++;
            System.out.println(title + ": nothing tests it");
        }
    }

    void is(String call, long got, long want) {
        answers++;
        if (got != want) {
            wrong++;
            System.out.println(title + ": " + call + " answered " + got + ", due is " + want);
        }
    }

    /** The call answers a finding, is counted once as such, and changes nothing else. */
    void refuses(EnvyRust x, int finding, String call, LongSupplier act) {
        int which = BEYOND - finding;
        String before = seen(x);
        int all = x.status(-1);
        int such = x.status(which);
        is(call, act.getAsLong(), finding);
        is("status(-1) behind " + call, x.status(-1), all + 1);
        is("status(" + which + ") behind " + call, x.status(which), such + 1);
        same(call, before, seen(x));
    }

    /** The call changes nothing that can be seen, and answers no finding. */
    void leaves(EnvyRust x, String call, LongSupplier act, long want) {
        String before = seen(x);
        int all = x.status(-1);
        is(call, act.getAsLong(), want);
        is("status(-1) behind " + call, x.status(-1), all);
        same(call, before, seen(x));
    }

    /** A question whose argument may go from least to most, with these answers; one further is BEYOND. */
    void goes(EnvyRust x, String call, int least, long atLeast, int most, long atMost, IntToLongFunction ask) {
        leaves(x, call + " of " + least, () -> ask.applyAsLong(least), atLeast);
        leaves(x, call + " of " + most, () -> ask.applyAsLong(most), atMost);
        outside(x, call, least, most, ask);
    }

    /** What is just below least, just above most, or far off, is BEYOND. */
    void outside(EnvyRust x, String call, int least, int most, IntToLongFunction act) {
        for (int v : new int[] {least - 1, most + 1, Integer.MIN_VALUE, Integer.MAX_VALUE}) {
            refuses(x, BEYOND, call + " of " + v, () -> act.applyAsLong(v));
        }
    }

    void same(String call, String before, String after) {
        answers++;
        if (!before.equals(after)) {
            wrong++;
            System.out.println(title + ": " + call + " made\n  " + before + " become\n  " + after);
        }
    }

    /** All that can be asked of the state of an object without changing it. */
    static String seen(EnvyRust x) {
        StringBuilder all = new StringBuilder();
        for (int what = 0; what <= 7; what++) {
            all.append(x.count(what)).append(' ');
        }
        for (int thing = 0; thing < x.count(1); thing++) {
            all.append("| ");
            for (int what = 0; what <= 6; what++) {
                all.append(x.thingOf(thing, what)).append(' ');
            }
        }
        for (int person = 0; person < x.count(2); person++) {
            all.append("/ ");
            for (int what = 0; what <= 7; what++) {
                all.append(x.of(person, what)).append(' ');
            }
        }
        return all.toString();
    }

    /** Puts a text on the tape, byte by byte of its signs. */
    static void feed(EnvyRust x, String text) {
        for (int i = 0; i < text.length(); i++) {
            if (x.feed(text.charAt(i), 1) < 0) {
                System.out.println("the test's own text is too long: " + text);
                System.exit(1);
            }
        }
    }

    /** What text() answers with nothing but this on the tape. */
    static int read(EnvyRust x, String text) {
        x.wipe();
        feed(x, text);
        return x.text();
    }

    /** A new object with what texts tell. */
    static EnvyRust town(String... texts) {
        EnvyRust x = new EnvyRust();
        for (String text : texts) {
            int answer = read(x, text);
            if (answer < 1) {
                System.out.println("the test's own text has a fault: " + text + ": " + answer);
                System.exit(1);
            }
        }
        return x;
    }

    /** Makes a sheet of these numbers. */
    static void sheet(EnvyRust x, int s, int bits, int... numbers) {
        x.sheet(s, bits, numbers.length);
        for (int i = 0; i < numbers.length; i++) {
            x.write(s, i, numbers[i]);
        }
    }

    /** Tells how it went, and ends. */
    void end() {
        testedLast();
        System.out.println(answers + " answers, " + wrong + " not as due");
        if (wrong != 0 || answers == 0) {
            System.exit(1);
        }
    }
}
