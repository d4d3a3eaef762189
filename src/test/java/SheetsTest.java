/** Promises 40 to 51: spots, sheets, images, counts. */
public final class SheetsTest {
    private static final int LEAST = Integer.MIN_VALUE;
    private static final int MOST = Integer.MAX_VALUE;

    public static void main(String[] args) {
        Due due = new Due();
        hold(due);
        as(due);
        sheet(due);
        write(due);
        copy(due);
        copyRefused(due);
        load(due);
        judge(due);
        image(due);
        tear(due);
        count(due);
        status(due);
        due.end();
    }

    private static void hold(Due due) {
        due.promise(40, "hold");
        EnvyRust x = new EnvyRust();
        due.is("hold(0, -1)", x.hold(0, -1), 1);
        due.refuses(x, Due.BEYOND, "hold(0, 0)", () -> x.hold(0, 0));
        x.person(0, 0);
        x.person(3, 0);
        for (int spot = 0; spot < 10; spot++) {
            due.is("hold", x.hold(spot, spot % 2), 1);
            due.is("count(7)", x.count(7), spot + 1);
        }
        for (int spot = 0; spot < 10; spot++) {
            due.is("as(" + spot + ", 0)", x.as(spot, 0), spot % 2);
        }
        due.refuses(x, Due.BEYOND, "hold(10, 0)", () -> x.hold(10, 0));
        due.refuses(x, Due.BEYOND, "hold(-1, 0)", () -> x.hold(-1, 0));
        due.refuses(x, Due.BEYOND, "hold(0, 2)", () -> x.hold(0, 2));
        due.refuses(x, Due.BEYOND, "hold(0, -2)", () -> x.hold(0, -2));
        due.refuses(x, Due.BEYOND, "hold(MOST, LEAST)", () -> x.hold(MOST, LEAST));
        due.is("hold(3, -1)", x.hold(3, -1), 1);
        due.is("count(7)", x.count(7), 9);
        due.is("as(3, 0)", x.as(3, 0), Due.MISSING);
    }

    private static void as(Due due) {
        due.promise(41, "as");
        EnvyRust x = new EnvyRust();
        int[] above = {-1, 0, 0, 2, 3, 0, 1};
        for (int kind = 0; kind <= 6; kind++) {
            x.person(kind, 0);
            x.hold(kind, kind);
        }
        for (int kind = 0; kind <= 6; kind++) {
            for (int asked = 0; asked <= 6; asked++) {
                int k = kind;
                int a = asked;
                boolean is = k == a || above[k] == a || above[k] > 0 && (above[above[k]] == a || a == 0) || a == 0;
                String call = "as(" + k + ", " + a + ")";
                if (is) {
                    due.leaves(x, call, () -> x.as(k, a), k);
                } else {
                    due.refuses(x, Due.KIND, call, () -> x.as(k, a));
                }
            }
        }
        due.refuses(x, Due.BEYOND, "as(10, 0)", () -> x.as(10, 0));
        due.refuses(x, Due.BEYOND, "as(-1, 0)", () -> x.as(-1, 0));
        due.refuses(x, Due.BEYOND, "as(0, 7)", () -> x.as(0, 7));
        due.refuses(x, Due.BEYOND, "as(9, -1), and nothing there", () -> x.as(9, -1));
        due.refuses(x, Due.MISSING, "as(9, 0)", () -> x.as(9, 0));
        x.change(0, 0, 4);
        due.is("by what it is now", x.as(0, 2), 0);
    }

    /** What load() makes of 8 things that all are 500 thick: the THICK of each, told in one row. */
    private static String loaded(EnvyRust x, int s) {
        for (int thing = 0; thing < 8; thing++) {
            x.forge(thing, 2, 500);
        }
        StringBuilder row = new StringBuilder();
        row.append(x.load(s));
        for (int thing = 0; thing < 8; thing++) {
            row.append(' ').append(x.thingOf(thing, 2));
        }
        return row.toString();
    }

    private static void loads(Due due, EnvyRust x, int s, String want) {
        String got = loaded(x, s);
        due.is("load of " + want + " was " + got, got.equals(want) ? 1 : 0, 1);
    }

    private static EnvyRust eight() {
        EnvyRust x = new EnvyRust();
        for (int thing = 0; thing < 8; thing++) {
            x.thing(0, 0);
        }
        return x;
    }

    private static void sheet(Due due) {
        due.promise(42, "sheet");
        EnvyRust x = eight();
        due.is("sheet(0, 8, 0)", x.sheet(0, 8, 0), 0);
        due.is("none, but not missing", x.judge(0), 0);
        due.is("sheet(3, 16, 40)", x.sheet(3, 16, 40), 40);
        due.is("sheet(1, 32, 3)", x.sheet(1, 32, 3), 3);
        loads(due, x, 1, "3 0 0 0 500 500 500 500 500");
        Due.sheet(x, 1, 32, 1, 2, 3);
        loads(due, x, 1, "3 1 2 3 500 500 500 500 500");
        due.is("sheet(1, 16, 2)", x.sheet(1, 16, 2), 2);
        loads(due, x, 1, "2 0 0 500 500 500 500 500 500");
        due.is("sheet(1, 16, 4)", x.sheet(1, 16, 4), 4);
        loads(due, x, 1, "4 0 0 0 0 500 500 500 500");
        int[][] beyond = {{-1, 8, 1}, {4, 8, 1}, {1, 1, 1}, {1, 24, 1}, {1, 64, 1}, {1, -8, 1}, {1, 8, 41}, {1, 0, 41}, {4, 0, -1}, {1, 9, -1}, {1, 8, MOST}};
        for (int[] args : beyond) {
            due.refuses(x, Due.BEYOND, "sheet" + args[0] + ", " + args[1] + ", " + args[2], () -> x.sheet(args[0], args[1], args[2]));
        }
        due.refuses(x, Due.SIZE, "sheet(1, 8, -1)", () -> x.sheet(1, 8, -1));
        due.refuses(x, Due.SIZE, "sheet(1, 0, -1)", () -> x.sheet(1, 0, -1));
        due.refuses(x, Due.SIZE, "sheet(2, 0, LEAST)", () -> x.sheet(2, 0, LEAST));
        loads(due, x, 1, "4 0 0 0 0 500 500 500 500");
        due.is("sheet(1, 0, 40)", x.sheet(1, 0, 40), 0);
        due.refuses(x, Due.MISSING, "load(1)", () -> x.load(1));
        due.is("sheet(2, 0, 0)", x.sheet(2, 0, 0), 0);
        due.is("sheet(1, 8, 1)", x.sheet(1, 8, 1), 1);
        loads(due, x, 1, "1 0 500 500 500 500 500 500 500");
    }

    private static void write(Due due) {
        due.promise(43, "write");
        EnvyRust x = eight();
        due.refuses(x, Due.BEYOND, "write(4, 99, 0)", () -> x.write(4, 99, 0));
        due.refuses(x, Due.BEYOND, "write(-1, 0, 0)", () -> x.write(-1, 0, 0));
        due.refuses(x, Due.MISSING, "write(0, 99, 0)", () -> x.write(0, 99, 0));
        x.sheet(0, 8, 3);
        due.refuses(x, Due.BEYOND, "write(0, 3, 0)", () -> x.write(0, 3, 0));
        due.refuses(x, Due.BEYOND, "write(0, -1, 0)", () -> x.write(0, -1, 0));
        due.refuses(x, Due.BEYOND, "write(0, MOST, 0)", () -> x.write(0, MOST, 0));
        due.is("write(0, 2, 0x1207)", x.write(0, 2, 0x1207), 1);
        due.is("write(0, 1, 127)", x.write(0, 1, 127), 1);
        loads(due, x, 0, "3 0 127 7 500 500 500 500 500");
        due.is("write(0, 1, 128)", x.write(0, 1, 128), 1);
        loads(due, x, 0, "1 0 500 500 500 500 500 500 500");
        x.sheet(1, 16, 2);
        x.write(1, 0, 65536 * 7 + 999);
        x.write(1, 1, 255);
        loads(due, x, 1, "2 999 255 500 500 500 500 500 500");
        x.write(1, 0, 32768 + 5);
        loads(due, x, 1, "0 500 500 500 500 500 500 500 500");
        x.sheet(2, 32, 2);
        x.write(2, 0, 999);
        x.write(2, 1, 65536 + 1);
        loads(due, x, 2, "1 999 500 500 500 500 500 500 500");
        x.person(0, 9);
        x.forge(0, 2, 5);
        x.write(0, 0, 255);
        x.write(0, 1, 5);
        x.write(0, 2, 256 + 5);
        due.is("of 8 bits 255 is -1: any", x.fits(0, 0, 0), 10);
        x.write(1, 0, 65535);
        x.write(1, 1, 65536 + 5);
        due.is("of 16 bits 65535 is -1: any", x.fits(1, 0, 0), 10);
        x.write(2, 0, -1);
        x.write(2, 1, 5);
        due.is("of 32 bits -1 is -1: any", x.fits(2, 0, 0), 10);
        x.write(1, 0, 255);
        due.is("of 16 bits 255 is 255", x.fits(1, 0, 0), 0);
        x.sheet(3, 8, 40);
        due.is("write(3, 39, 1)", x.write(3, 39, 1), 1);
        due.refuses(x, Due.BEYOND, "write(3, 40, 1)", () -> x.write(3, 40, 1));
    }

    private static void copy(Due due) {
        due.promise(44, "copy");
        EnvyRust x = eight();
        Due.sheet(x, 0, 16, 1, 2, 3, 4, 5, 6, 7, 8);
        Due.sheet(x, 1, 16, 11, 12, 13);
        due.is("copy(0, 5, 1, 1, 2)", x.copy(0, 5, 1, 1, 2), 2);
        loads(due, x, 1, "3 11 6 7 500 500 500 500 500");
        loads(due, x, 0, "8 1 2 3 4 5 6 7 8");
        due.is("forward on itself", x.copy(0, 0, 0, 2, 5), 5);
        loads(due, x, 0, "8 1 2 1 2 3 4 5 8");
        due.is("back on itself", x.copy(0, 3, 0, 1, 5), 5);
        loads(due, x, 0, "8 1 2 3 4 5 8 5 8");
        due.is("none", x.copy(0, 8, 1, 3, 0), 0);
        due.is("all", x.copy(1, 0, 0, 0, 3), 3);
        loads(due, x, 0, "8 11 6 7 4 5 8 5 8");
    }

    private static void copyRefused(Due due) {
        EnvyRust x = eight();
        Due.sheet(x, 0, 16, 1, 2, 3, 4, 5, 6, 7, 8);
        Due.sheet(x, 1, 16, 11, 12, 13);
        Due.sheet(x, 2, 8, 21, 22);
        int[][] refused = {
            {-1, 0, 0, 0, 1, Due.BEYOND}, {4, 0, 0, 0, 1, Due.BEYOND}, {0, 0, -1, 0, 1, Due.BEYOND}, {3, 0, 4, 0, 1, Due.BEYOND},
            {3, 0, 0, 0, 1, Due.MISSING}, {0, 0, 3, 0, 1, Due.MISSING}, {3, 0, 3, 0, 0, Due.MISSING}, {2, -1, 3, -1, -1, Due.MISSING},
            {0, 0, 2, 0, 1, Due.KIND}, {2, 0, 0, 0, 0, Due.KIND}, {2, -1, 0, 99, -1, Due.KIND},
            {0, 7, 1, 0, 2, Due.BEYOND}, {0, 0, 1, 2, 2, Due.BEYOND}, {0, 0, 1, 0, 4, Due.BEYOND}, {1, 0, 0, 0, 4, Due.BEYOND},
            {0, -1, 1, 0, 1, Due.BEYOND}, {0, 0, 1, -1, 1, Due.BEYOND}, {0, 0, 1, 0, -1, Due.BEYOND}, {0, 9, 1, 0, 0, Due.BEYOND},
            {0, 0, 1, 4, 0, Due.BEYOND}, {0, 1, 1, 1, MOST, Due.BEYOND}, {0, MOST, 1, 0, MOST, Due.BEYOND}, {0, 0, 1, MOST, 1, Due.BEYOND},
            {0, MOST, 0, MOST, 2, Due.BEYOND}, {0, LEAST, 0, LEAST, LEAST, Due.BEYOND}, {0, 1, 1, 0, LEAST, Due.BEYOND}};
        for (int[] a : refused) {
            String call = "copy(" + a[0] + ", " + a[1] + ", " + a[2] + ", " + a[3] + ", " + a[4] + ")";
            due.refuses(x, a[5], call, () -> x.copy(a[0], a[1], a[2], a[3], a[4]));
        }
        loads(due, x, 0, "8 1 2 3 4 5 6 7 8");
        loads(due, x, 1, "3 11 12 13 500 500 500 500 500");
        loads(due, x, 2, "2 21 22 500 500 500 500 500 500");
    }

    private static void load(Due due) {
        due.promise(45, "load");
        EnvyRust x = Due.town("thing 0; thing 0; thing 0");
        due.refuses(x, Due.BEYOND, "load(4)", () -> x.load(4));
        due.refuses(x, Due.BEYOND, "load(-1)", () -> x.load(-1));
        due.refuses(x, Due.MISSING, "load(0)", () -> x.load(0));
        Due.sheet(x, 0, 16, 0, 999, 7, 8, 9);
        due.is("more than there are things", x.load(0), 3);
        due.is("thingOf(0, 2)", x.thingOf(0, 2), 0);
        due.is("thingOf(1, 2)", x.thingOf(1, 2), 999);
        due.is("thingOf(2, 2)", x.thingOf(2, 2), 7);
        Due.sheet(x, 1, 16, 5, 1000, 6);
        due.is("up to 1000", x.load(1), 1);
        due.is("thingOf(0, 2)", x.thingOf(0, 2), 5);
        due.is("thingOf(1, 2)", x.thingOf(1, 2), 999);
        due.is("thingOf(2, 2)", x.thingOf(2, 2), 7);
        Due.sheet(x, 1, 16, -1, 3);
        due.leaves(x, "up to -1", () -> x.load(1), 0);
        x.sheet(1, 32, 0);
        due.leaves(x, "no numbers", () -> x.load(1), 0);
        EnvyRust none = new EnvyRust();
        none.sheet(0, 8, 2);
        due.leaves(none, "no things", () -> none.load(0), 0);
    }

    private static void judge(Due due) {
        due.promise(46, "judge");
        EnvyRust x = Due.town("thing 0; thing 0 on 0; thing 0 on 1; thing 0 on 1; thing 0");
        due.refuses(x, Due.BEYOND, "judge(4)", () -> x.judge(4));
        due.refuses(x, Due.BEYOND, "judge(-1)", () -> x.judge(-1));
        due.refuses(x, Due.MISSING, "judge(0)", () -> x.judge(0));
        judged(due, x, 0);
        judged(due, x, 0, 4);
        judged(due, x, 0, 2, 1, 0);
        judged(due, x, 0, 3, 1);
        judged(due, x, 1, 3, 2, 1, 0);
        judged(due, x, 2, 3, 1, 4);
        judged(due, x, 1, 5);
        judged(due, x, 1, -1);
        judged(due, x, 1, 0, -1);
        judged(due, x, 3, 2, 1, 0, 4);
        judged(due, x, 1, 2, 5);
        judged(due, x, 1, 2, 0);
        judged(due, x, 1, 1, 1);
        judged(due, x, 1, 256, 1);
    }

    private static void judged(Due due, EnvyRust x, int want, int... numbers) {
        Due.sheet(x, 0, 16, numbers);
        due.leaves(x, "judge(0) of " + java.util.Arrays.toString(numbers), () -> x.judge(0), want);
    }

    private static void image(Due due) {
        due.promise(47, "image");
        EnvyRust x = Due.town("looker at 3 likes 5 0 0 0; rival; thing 0 at 3; thing 1 of 1 on 0");
        x.hold(2, 1);
        x.seed(77);
        x.go(2);
        due.leaves(x, "image()", x::image, 1);
        String kept = Due.seen(x);
        spoil(x);
        due.promise(48, "undo");
        due.is("undo()", x.undo(), 2);
        due.is("all is as it was", Due.seen(x).equals(kept) ? 1 : 0, 1);
        due.is("as(2, 0)", x.as(2, 0), 1);
        due.is("as(5, 0)", x.as(5, 0), Due.MISSING);
        spoil(x);
        due.is("what is kept stays", x.undo(), 2);
        due.is("all is as it was", Due.seen(x).equals(kept) ? 1 : 0, 1);
        x.go(5);
        due.promise(47, "image");
        due.is("image()", x.image(), 1);
        x.go(1);
        due.promise(48, "undo");
        due.is("the latest", x.undo(), 7);
        due.is("the latest still", x.undo(), 7);
        tapeAndSheets(due);
    }

    private static void spoil(EnvyRust x) {
        x.thing(3, 3);
        x.person(5, 5);
        for (int what = 0; what <= 3; what++) {
            x.forge(0, what, 2);
        }
        x.forge(0, 4, 2);
        x.forge(0, 5, 2);
        x.forge(1, 5, -1);
        for (int what = 0; what <= 6; what++) {
            x.change(1, what, 4);
        }
        x.hold(2, -1);
        x.hold(5, 2);
        x.strolls(3);
    }

    private static void tapeAndSheets(Due due) {
        EnvyRust x = new EnvyRust();
        due.refuses(x, Due.NONE, "undo()", x::undo);
        x.thing(0, 0);
        Due.feed(x, "child");
        Due.sheet(x, 0, 16, 5);
        x.image();
        Due.feed(x, " at 9");
        Due.sheet(x, 1, 16, 6);
        x.write(0, 0, 8);
        int all = x.status(-1);
        due.is("undo()", x.undo(), 0);
        due.is("no finding comes back", x.status(-1), all);
        x.thing(9, 9);
        due.is("undo()", x.undo(), 0);
        due.is("no finding is taken back", x.status(-1), all + 1);
        due.is("the tape stays", x.count(5), 10);
        due.is("the sheets stay", x.load(1), 1);
        due.is("thingOf(0, 2)", x.thingOf(0, 2), 6);
        due.is("load(0)", x.load(0), 1);
        due.is("thingOf(0, 2)", x.thingOf(0, 2), 8);
        due.is("text()", x.text(), 1);
        due.is("of(0, 1)", x.of(0, 1), 9);
        x.sheet(0, 0, 0);
        x.undo();
        due.is("what is missing stays so", x.judge(0), Due.MISSING);
        due.is("count(2)", x.count(2), 0);
    }

    private static void tear(Due due) {
        due.promise(49, "tear");
        EnvyRust x = new EnvyRust();
        due.leaves(x, "tear()", x::tear, 0);
        x.image();
        x.image();
        due.leaves(x, "tear()", x::tear, 1);
        due.refuses(x, Due.NONE, "undo()", x::undo);
        due.leaves(x, "tear()", x::tear, 0);
        x.image();
        due.is("undo()", x.undo(), 0);
    }

    private static void count(Due due) {
        due.promise(50, "count");
        EnvyRust x = Due.town("looker; rival; child; thing 0 thick 70; thing 0 thick 0; thing 0 thick 5; thing 1 thick 0; thing 0 thick 6");
        Due.feed(x, "abcdefghi");
        x.hold(0, 0);
        x.hold(9, 0);
        x.seed(-5);
        x.change(0, 1, 8);
        x.change(1, 1, 8);
        x.change(2, 1, 8);
        x.go(6);
        int[] want = {6, 5, 3, 2, 81, 9, -5, 2};
        for (int what = 0; what <= 7; what++) {
            int w = what;
            due.leaves(x, "count(" + w + ")", () -> x.count(w), want[w]);
        }
        due.refuses(x, Due.BEYOND, "count(8)", () -> x.count(8));
        due.refuses(x, Due.BEYOND, "count(-1)", () -> x.count(-1));
        due.refuses(x, Due.BEYOND, "count(LEAST)", () -> x.count(LEAST));
        x.seed(-1000003);
        due.leaves(x, "z is no finding", () -> x.count(6), -1000003);
    }

    private static void status(Due due) {
        due.promise(51, "status");
        EnvyRust x = new EnvyRust();
        x.person(0, 0);
        for (int i = 0; i < 8; i++) {
            x.thing(0, 0);
        }
        x.thing(9, 9);
        x.odds(15, 0);
        x.thing(0, 0);
        x.hold(0, 0);
        x.as(0, 1);
        x.as(0, 2);
        x.as(0, 3);
        x.undo();
        x.forge(1, 5, 0);
        x.forge(0, 5, 1);
        x.load(0);
        x.judge(0);
        x.sheet(0, 8, -1);
        x.text();
        int[] want = {2, 1, 3, 1, 1, 2, 1};
        for (int which = 0; which <= 6; which++) {
            due.is("status(" + which + ")", x.status(which), want[which]);
        }
        due.is("status(-1)", x.status(-1), 11);
        due.is("status(7)", x.status(7), Due.BEYOND);
        due.is("status(0)", x.status(0), 3);
        due.is("status(-2)", x.status(-2), Due.BEYOND);
        due.is("status(MOST)", x.status(MOST), Due.BEYOND);
        due.is("status(0)", x.status(0), 5);
        due.is("status(-1)", x.status(-1), 14);
    }
}
