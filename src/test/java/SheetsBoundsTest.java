/** Each sentence of promises 40 to 51 at its boundaries. */
public final class SheetsBoundsTest {
    private static final int LEAST = Integer.MIN_VALUE;
    private static final int MOST = Integer.MAX_VALUE;

    public static void main(String[] args) {
        Due due = new Due();
        hold(due);
        as(due);
        sheet(due);
        sheetFindings(due);
        write(due);
        copy(due);
        copyFindings(due);
        load(due);
        loadEnds(due);
        judge(due);
        judgeFindings(due);
        image(due);
        undo(due);
        tear(due);
        count(due);
        status(due);
        lastCall(due);
        due.end();
    }

    private static EnvyRust eight() {
        EnvyRust x = new EnvyRust();
        for (int thing = 0; thing < 8; thing++) {
            x.thing(0, 0);
        }
        return x;
    }

    /** What load() makes of 8 things that all are 500 thick: how many came, and the THICK of each. */
    private static String loaded(EnvyRust x, int s) {
        for (int thing = 0; thing < 8; thing++) {
            x.forge(thing, 2, 500);
        }
        StringBuilder row = new StringBuilder();
        row.append(x.load(s));
        for (int thing = 0; thing < 8; thing++) {
            row.append(' ').append(x.thingOf(thing, 2));
        }
        return row.toString();
    }

    private static void loads(Due due, EnvyRust x, int s, String want) {
        due.same("load(" + s + ")", want, loaded(x, s));
    }

    private static void hold(Due due) {
        due.says(40, "A SPOT holds one of PEOPLE, or nothing (-1): 1.");
        EnvyRust x = new EnvyRust();
        due.is("nothing holds nothing", x.hold(9, -1), 1);
        due.is("count(7)", x.count(7), 0);
        for (int i = 0; i < 8; i++) {
            int one = i;
            due.refuses(x, Due.BEYOND, "hold(0, " + i + "), not there yet", () -> x.hold(0, one));
            x.person(0, 0);
            due.is("hold(0, " + i + ")", x.hold(0, i), 1);
            due.is("as(0, 0)", x.as(0, 0), i);
            due.is("hold(9, " + i + ")", x.hold(9, i), 1);
            due.is("as(9, 0)", x.as(9, 0), i);
        }
        due.is("two spots may hold one", x.count(7), 2);
        due.is("hold(9, -1)", x.hold(9, -1), 1);
        due.is("as(9, 0)", x.as(9, 0), Due.MISSING);
        due.is("the other spot still", x.as(0, 0), 7);
        due.says(40, "BEYOND.");
        due.outside(x, "hold in", 0, 9, v -> x.hold(v, 0));
        due.outside(x, "hold nothing in", 0, 9, v -> x.hold(v, -1));
        due.outside(x, "hold", -1, 7, v -> x.hold(0, v));
        due.outside(x, "hold", -1, 7, v -> x.hold(9, v));
        due.is("as(0, 0)", x.as(0, 0), 7);
    }

    private static void as(Due due) {
        due.says(41, "What a SPOT holds as one of a kind (0 to 6): the number.");
        EnvyRust x = new EnvyRust();
        for (int i = 0; i < 8; i++) {
            x.person(i % 7, 0);
        }
        x.hold(0, 6);
        x.hold(9, 7);
        due.leaves(x, "as(0, 6)", () -> x.as(0, 6), 6);
        due.leaves(x, "as(0, 1)", () -> x.as(0, 1), 6);
        due.leaves(x, "as(0, 0)", () -> x.as(0, 0), 6);
        due.leaves(x, "as(9, 0)", () -> x.as(9, 0), 7);
        due.says(41, "BEYOND.");
        due.outside(x, "as in", 0, 9, v -> x.as(v, 0));
        due.outside(x, "as of kind", 0, 6, v -> x.as(0, v));
        due.outside(x, "as of kind, and nothing held", 0, 6, v -> x.as(1, v));
        due.says(41, "MISSING: it holds nothing.");
        for (int spot = 1; spot <= 8; spot++) {
            int s = spot;
            due.refuses(x, Due.MISSING, "as(" + s + ", 0)", () -> x.as(s, 0));
            due.refuses(x, Due.MISSING, "as(" + s + ", 6)", () -> x.as(s, 6));
        }
        x.hold(0, -1);
        due.refuses(x, Due.MISSING, "nothing again", () -> x.as(0, 0));
        due.says(41, "KIND: it isn't of that kind, nor of one under it.");
        String[] under = {"0", "01", "02", "023", "0234", "05", "016"};
        for (int kind = 0; kind <= 6; kind++) {
            x.hold(0, 0);
            x.change(0, 0, kind);
            for (int asked = 0; asked <= 6; asked++) {
                int k = asked;
                String call = "one of kind " + kind + " as " + asked;
                if (under[kind].indexOf('0' + asked) >= 0) {
                    due.leaves(x, call, () -> x.as(0, k), 0);
                } else {
                    due.refuses(x, Due.KIND, call, () -> x.as(0, k));
                }
            }
        }
    }

    private static void sheet(Due due) {
        due.says(42, "A sheet has n numbers, all 0, of 8, 16 or 32 bits; bits 0: it is MISSING: n (0 if it is MISSING).");
        EnvyRust x = eight();
        int[] widths = {8, 16, 32};
        int[] lengths = {0, 1, 2, 7, 8, 39, 40};
        for (int s = 0; s <= 3; s++) {
            int sheet = s;
            for (int bits : widths) {
                for (int n : lengths) {
                    due.is("sheet(" + s + ", " + bits + ", " + n + ")", x.sheet(s, bits, n), n);
                    StringBuilder zeros = new StringBuilder().append(Math.min(n, 8));
                    for (int thing = 0; thing < 8; thing++) {
                        zeros.append(thing < n ? " 0" : " 500");
                    }
                    loads(due, x, s, zeros.toString());
                    due.refuses(x, Due.BEYOND, "number " + n, () -> x.write(sheet, n, 1));
                    for (int i = 0; i < n; i++) {
                        due.is("number " + i, x.write(s, i, 7), 1);
                    }
                }
            }
            for (int n : lengths) {
                due.is("sheet(" + s + ", 0, " + n + ")", x.sheet(s, 0, n), 0);
                due.refuses(x, Due.MISSING, "load(" + s + ")", () -> x.load(sheet));
                due.refuses(x, Due.MISSING, "write(" + s + ", 0, 0)", () -> x.write(sheet, 0, 0));
            }
        }
    }

    private static void sheetFindings(Due due) {
        EnvyRust x = eight();
        Due.sheet(x, 1, 16, 1, 2, 3);
        due.says(42, "BEYOND: no such sheet, other bits.");
        due.outside(x, "sheet", 0, 3, v -> x.sheet(v, 8, 0));
        due.outside(x, "sheet", 0, 3, v -> x.sheet(v, 0, 0));
        due.outside(x, "sheet", 0, 3, v -> x.sheet(v, 8, -1));
        int[] others = {-1, 1, 7, 9, 15, 17, 24, 31, 33, 64, 4, 2, -8, -16, -32, 8 + 256, LEAST, MOST};
        for (int bits : others) {
            due.refuses(x, Due.BEYOND, "sheet(1, " + bits + ", 1)", () -> x.sheet(1, bits, 1));
            due.refuses(x, Due.BEYOND, "sheet(1, " + bits + ", -1)", () -> x.sheet(1, bits, -1));
        }
        int[] widths = {0, 8, 16, 32};
        for (int bits : widths) {
            due.says(42, "SIZE: n is below 0 (also with bits 0).");
            due.refuses(x, Due.SIZE, "sheet(1, " + bits + ", -1)", () -> x.sheet(1, bits, -1));
            due.refuses(x, Due.SIZE, "sheet(1, " + bits + ", LEAST)", () -> x.sheet(1, bits, LEAST));
            due.says(42, "BEYOND: n is above 40 (also with bits 0).");
            due.refuses(x, Due.BEYOND, "sheet(1, " + bits + ", 41)", () -> x.sheet(1, bits, 41));
            due.refuses(x, Due.BEYOND, "sheet(1, " + bits + ", MOST)", () -> x.sheet(1, bits, MOST));
        }
        loads(due, x, 1, "3 1 2 3 500 500 500 500 500");
        due.is("sheet(1, 16, 40)", x.sheet(1, 16, 40), 40);
        due.is("sheet(1, 0, 40)", x.sheet(1, 0, 40), 0);
        due.is("sheet(1, 16, 0)", x.sheet(1, 16, 0), 0);
    }

    private static void write(Due due) {
        due.says(43, "Number i of a sheet becomes v (its lowest bits): 1.");
        EnvyRust x = eight();
        x.sheet(0, 8, 8);
        due.is("the first", x.write(0, 0, 256 + 5), 1);
        due.is("the last", x.write(0, 7, -256 + 127), 1);
        due.is("one between", x.write(0, 3, MOST - 255), 1);
        loads(due, x, 0, "8 5 0 0 0 0 0 0 127");
        x.sheet(1, 16, 8);
        due.is("the first", x.write(1, 0, 65536 + 999), 1);
        due.is("the last", x.write(1, 7, LEAST + 256), 1);
        due.is("one between", x.write(1, 3, 255), 1);
        loads(due, x, 1, "8 999 0 0 255 0 0 0 256");
        x.sheet(2, 32, 8);
        due.is("the first", x.write(2, 0, 999), 1);
        due.is("the last", x.write(2, 7, 65536), 1);
        loads(due, x, 2, "7 999 0 0 0 0 0 0 500");
        due.is("once more", x.write(2, 7, 1), 1);
        loads(due, x, 2, "8 999 0 0 0 0 0 0 1");
        due.says(43, "BEYOND: no such sheet.");
        due.outside(x, "write on sheet", 0, 3, v -> x.write(v, 0, 1));
        due.outside(x, "write on sheet", 0, 3, v -> x.write(v, -1, 1));
        due.says(43, "MISSING.");
        due.refuses(x, Due.MISSING, "write(3, 0, 1)", () -> x.write(3, 0, 1));
        due.refuses(x, Due.MISSING, "write(3, -1, 1)", () -> x.write(3, -1, 1));
        due.refuses(x, Due.MISSING, "write(3, 40, 1)", () -> x.write(3, 40, 1));
        due.says(43, "BEYOND: no such number.");
        due.outside(x, "write number", 0, 7, v -> x.write(0, v, 1));
        x.sheet(3, 8, 40);
        due.outside(x, "write number", 0, 39, v -> x.write(3, v, 1));
        due.is("write(3, 39, 1)", x.write(3, 39, 1), 1);
        x.sheet(3, 8, 0);
        due.refuses(x, Due.BEYOND, "of none", () -> x.write(3, 0, 1));
        due.refuses(x, Due.BEYOND, "of none", () -> x.write(3, -1, 1));
    }

    private static void copy(Due due) {
        due.says(44, "n numbers of a sheet from one on come to another one from one on (as they all were): n.");
        EnvyRust x = eight();
        Due.sheet(x, 0, 16, 1, 2, 3, 4, 5, 6, 7, 8);
        Due.sheet(x, 1, 16, 11, 12, 13, 14, 15, 16);
        due.is("none", x.copy(0, 0, 1, 0, 0), 0);
        due.is("none, behind the last", x.copy(0, 8, 1, 6, 0), 0);
        loads(due, x, 1, "6 11 12 13 14 15 16 500 500");
        due.is("the first to the last", x.copy(0, 0, 1, 5, 1), 1);
        due.is("the last to the first", x.copy(0, 7, 1, 0, 1), 1);
        loads(due, x, 1, "6 8 12 13 14 15 1 500 500");
        due.is("the last two", x.copy(0, 6, 1, 4, 2), 2);
        loads(due, x, 1, "6 8 12 13 14 7 8 500 500");
        due.is("as many as there is room for", x.copy(0, 2, 1, 0, 6), 6);
        loads(due, x, 1, "6 3 4 5 6 7 8 500 500");
        loads(due, x, 0, "8 1 2 3 4 5 6 7 8");
        due.is("on by one on itself", x.copy(0, 0, 0, 1, 7), 7);
        loads(due, x, 0, "8 1 1 2 3 4 5 6 7");
        due.is("back by one on itself", x.copy(0, 1, 0, 0, 7), 7);
        loads(due, x, 0, "8 1 2 3 4 5 6 7 7");
        due.is("all on itself", x.copy(0, 0, 0, 0, 8), 8);
        loads(due, x, 0, "8 1 2 3 4 5 6 7 7");
        x.sheet(2, 32, 40);
        x.sheet(3, 32, 40);
        x.write(2, 0, 70);
        x.write(2, 39, 79);
        due.is("all 40", x.copy(2, 0, 3, 0, 40), 40);
        due.is("the last to the second", x.copy(3, 39, 3, 1, 1), 1);
        loads(due, x, 3, "8 70 79 0 0 0 0 0 0");
        x.sheet(2, 8, 2);
        x.sheet(3, 8, 2);
        x.write(2, 0, 255);
        x.write(2, 1, 127);
        due.is("with their sign", x.copy(2, 0, 3, 0, 2), 2);
        loads(due, x, 3, "0 500 500 500 500 500 500 500 500");
        due.is("with their sign", x.copy(3, 1, 3, 0, 1), 1);
        loads(due, x, 3, "2 127 127 500 500 500 500 500 500");
    }

    private static void copyFindings(Due due) {
        EnvyRust x = eight();
        Due.sheet(x, 0, 16, 1, 2, 3, 4, 5, 6, 7, 8);
        Due.sheet(x, 1, 16, 11, 12, 13);
        Due.sheet(x, 2, 8, 21, 22, 23, 24);
        due.says(44, "BEYOND: no such sheet (either).");
        due.outside(x, "copy from sheet", 0, 3, v -> x.copy(v, 0, 0, 0, 0));
        due.outside(x, "copy to sheet", 0, 3, v -> x.copy(0, 0, v, 0, 0));
        due.outside(x, "copy from sheet, the other one missing", 0, 3, v -> x.copy(v, 0, 3, 0, 0));
        due.outside(x, "copy to sheet, the other one missing", 0, 3, v -> x.copy(3, 0, v, 0, 0));
        due.says(44, "MISSING: one is.");
        due.refuses(x, Due.MISSING, "the first", () -> x.copy(3, 0, 0, 0, 0));
        due.refuses(x, Due.MISSING, "the other one", () -> x.copy(0, 0, 3, 0, 0));
        due.refuses(x, Due.MISSING, "both", () -> x.copy(3, 0, 3, 0, 0));
        due.refuses(x, Due.MISSING, "and below 0", () -> x.copy(3, -1, 0, -1, -1));
        due.says(44, "KIND: they are not of as many bits.");
        int[] widths = {8, 16, 32};
        for (int one : widths) {
            for (int other : widths) {
                EnvyRust y = new EnvyRust();
                y.sheet(0, one, 2);
                y.sheet(1, other, 2);
                due.is("copy of " + one + " bits to " + other, y.copy(0, 0, 1, 0, 2), one == other ? 2 : Due.KIND);
                due.is("none of " + one + " bits to " + other, y.copy(0, 0, 1, 0, 0), one == other ? 0 : Due.KIND);
                due.is("too many of " + one + " bits to " + other, y.copy(0, 0, 1, 0, 3), one == other ? Due.BEYOND : Due.KIND);
            }
        }
        due.refuses(x, Due.KIND, "copy(0, 0, 2, 0, 1)", () -> x.copy(0, 0, 2, 0, 1));
        due.says(44, "BEYOND: one has not so many, or from, to or n is below 0.");
        int[][] beyond = {{0, 0, 1, 0, 4}, {0, 0, 1, 1, 3}, {0, 0, 1, 3, 1}, {0, 8, 1, 0, 1}, {0, 6, 1, 0, 3}, {1, 0, 0, 0, 4}, {1, 3, 0, 0, 1}, {1, 1, 0, 0, 3},
            {0, 9, 1, 0, 0}, {0, 0, 1, 4, 0}, {0, -1, 1, 0, 1}, {0, 0, 1, -1, 1}, {0, 0, 1, 0, -1}, {0, -1, 1, 0, 0}, {0, 0, 1, -1, 0}, {0, 1, 1, 1, -1},
            {0, MOST, 1, 0, 1}, {0, 0, 1, MOST, 1}, {0, 0, 1, 0, MOST}, {0, 1, 1, 1, MOST}, {0, MOST, 1, MOST, MOST}, {0, LEAST, 1, 0, 1}, {0, 0, 1, LEAST, 1},
            {0, 0, 1, 0, LEAST}, {0, LEAST, 1, LEAST, LEAST}, {0, 0, 0, 1, 8}, {0, 1, 0, 0, 8}, {0, 0, 0, 0, 9}};
        for (int[] c : beyond) {
            String call = "copy(" + c[0] + ", " + c[1] + ", " + c[2] + ", " + c[3] + ", " + c[4] + ")";
            due.refuses(x, Due.BEYOND, call, () -> x.copy(c[0], c[1], c[2], c[3], c[4]));
        }
        loads(due, x, 0, "8 1 2 3 4 5 6 7 8");
        loads(due, x, 1, "3 11 12 13 500 500 500 500 500");
    }

    private static void load(Due due) {
        due.says(45, "Numbers of a sheet, from its begin on, become THICK of THINGS 0, 1, ..: how many came.");
        EnvyRust x = eight();
        x.sheet(0, 16, 0);
        loads(due, x, 0, "0 500 500 500 500 500 500 500 500");
        Due.sheet(x, 0, 16, 7);
        loads(due, x, 0, "1 7 500 500 500 500 500 500 500");
        Due.sheet(x, 0, 32, 1, 2, 3, 4, 5, 6, 7);
        loads(due, x, 0, "7 1 2 3 4 5 6 7 500");
        Due.sheet(x, 0, 8, 1, 2, 3, 4, 5, 6, 7, 8);
        loads(due, x, 0, "8 1 2 3 4 5 6 7 8");
        x.sheet(1, 8, 0);
        due.says(45, "BEYOND: no such sheet.");
        due.outside(x, "load", 0, 3, x::load);
        due.says(45, "MISSING.");
        due.refuses(x, Due.MISSING, "load(2)", () -> x.load(2));
        due.refuses(x, Due.MISSING, "load(3)", () -> x.load(3));
        x.sheet(0, 0, 0);
        due.refuses(x, Due.MISSING, "load(0)", () -> x.load(0));
        due.leaves(x, "load(1), which is there", () -> x.load(1), 0);
    }

    private static void loadEnds(Due due) {
        due.says(45, "It ends at the first that isn't 0 to 999, or for which there is no THING.");
        EnvyRust x = eight();
        int[] good = {0, 1, 998, 999};
        for (int v : good) {
            Due.sheet(x, 0, 16, 5, v, 6);
            loads(due, x, 0, "3 5 " + v + " 6 500 500 500 500 500");
            Due.sheet(x, 0, 16, v, 6);
            loads(due, x, 0, "2 " + v + " 6 500 500 500 500 500 500");
        }
        int[] bad = {-1, -2, 1000, 1001, LEAST, MOST};
        for (int v : bad) {
            Due.sheet(x, 0, 32, 5, v, 6);
            loads(due, x, 0, "1 5 500 500 500 500 500 500 500");
            Due.sheet(x, 0, 32, v, 6);
            loads(due, x, 0, "0 500 500 500 500 500 500 500 500");
            Due.sheet(x, 0, 32, 1, 2, 3, 4, 5, 6, 7, v);
            loads(due, x, 0, "7 1 2 3 4 5 6 7 500");
        }
        Due.sheet(x, 0, 16, 1, 2, 3, 4, 5, 6, 7, 8, 9);
        loads(due, x, 0, "8 1 2 3 4 5 6 7 8");
        x.sheet(0, 8, 40);
        loads(due, x, 0, "8 0 0 0 0 0 0 0 0");
        for (int things = 0; things <= 7; things++) {
            EnvyRust y = new EnvyRust();
            for (int i = 0; i < things; i++) {
                y.thing(0, 0);
            }
            y.sheet(0, 8, 4);
            due.is("4 numbers for " + things, y.load(0), Math.min(4, things));
            due.is("gone", y.count(3), Math.min(4, things));
        }
    }

    private static void judged(Due due, EnvyRust x, int want, int... numbers) {
        Due.sheet(x, 0, 32, numbers);
        due.leaves(x, "judge(0) of " + java.util.Arrays.toString(numbers), () -> x.judge(0), want);
    }

    private static void judge(Due due) {
        due.says(46, "THE READER: numbers of a sheet are THINGS, each HANGING on the next one: 0 if so; else 1 and the place of the first that isn't so.");
        EnvyRust x = eight();
        for (int i = 0; i < 7; i++) {
            x.forge(i, 5, i + 1);
        }
        judged(due, x, 0);
        judged(due, x, 0, 0);
        judged(due, x, 0, 7);
        judged(due, x, 0, 0, 1);
        judged(due, x, 0, 6, 7);
        judged(due, x, 0, 0, 1, 2, 3, 4, 5, 6, 7);
        judged(due, x, 1, -1);
        judged(due, x, 1, 8);
        judged(due, x, 1, LEAST);
        judged(due, x, 1, MOST);
        judged(due, x, 1, 1, 0);
        judged(due, x, 1, 0, 2);
        judged(due, x, 1, 0, 0);
        judged(due, x, 1, 6, 8);
        judged(due, x, 1, 7, -1);
        judged(due, x, 1, 7, 8);
        judged(due, x, 2, 6, 7, 0);
        judged(due, x, 2, 6, 7, -1);
        judged(due, x, 7, 0, 1, 2, 3, 4, 5, 6, 0);
        judged(due, x, 8, 0, 1, 2, 3, 4, 5, 6, 7, 0);
        judged(due, x, 8, 0, 1, 2, 3, 4, 5, 6, 7, -1);
        x.sheet(0, 8, 40);
        for (int i = 0; i < 8; i++) {
            x.write(0, i, i);
        }
        due.leaves(x, "40 numbers", () -> x.judge(0), 8);
        x.forge(3, 2, 0);
        judged(due, x, 0, 2, 3, 4);
        EnvyRust none = new EnvyRust();
        judged(due, none, 0);
        judged(due, none, 1, 0);
        EnvyRust one = Due.town("thing 0");
        judged(due, one, 0, 0);
        judged(due, one, 1, 1);
        judged(due, one, 1, 0, 1);
    }

    private static void judgeFindings(Due due) {
        EnvyRust x = eight();
        x.sheet(0, 8, 0);
        x.sheet(3, 8, 1);
        due.says(46, "BEYOND: no such sheet.");
        due.outside(x, "judge", 0, 3, x::judge);
        due.says(46, "MISSING.");
        due.refuses(x, Due.MISSING, "judge(1)", () -> x.judge(1));
        due.refuses(x, Due.MISSING, "judge(2)", () -> x.judge(2));
        x.sheet(3, 0, 1);
        due.refuses(x, Due.MISSING, "judge(3)", () -> x.judge(3));
        due.leaves(x, "judge(0), which is there", () -> x.judge(0), 0);
    }

    /** A town with something in each place that an image keeps. */
    private static EnvyRust town() {
        EnvyRust x = Due.town("rival at 15 walks 3 likes 9 8 7 6; child at 2 likes 0 1 0 1", "thing 3 at 15 thick 999 paint 9; thing 0 at 3 thick 40 paint 1 of 1 on 0; thing 1 thick 0");
        x.hold(0, 1);
        x.hold(9, 0);
        x.seed(LEAST);
        x.go(4);
        return x;
    }

    /** Makes everything another. */
    private static void spoil(EnvyRust x) {
        for (int thing = 0; thing < x.count(1); thing++) {
            for (int what = 0; what <= 3; what++) {
                x.forge(thing, what, (x.thingOf(thing, what) + 1) % 4);
            }
            x.forge(thing, 4, x.thingOf(thing, 4) == 0 ? 1 : 0);
            x.forge(thing, 5, -1);
        }
        for (int one = 0; one < x.count(2); one++) {
            for (int what = 0; what <= 6; what++) {
                x.change(one, what, (x.of(one, what) + 1) % 7);
            }
        }
        for (int spot = 0; spot <= 9; spot++) {
            x.hold(spot, spot % 2 == 0 ? -1 : 1);
        }
        Due.read(x, "looker likes 9 9 9 9; looker; looker; looker; looker; looker; thing 1; thing 1 on 0; thing 1; thing 1; thing 1 of 5");
        x.strolls(5);
    }

    private static String spots(EnvyRust x) {
        StringBuilder row = new StringBuilder();
        for (int spot = 0; spot <= 9; spot++) {
            row.append(x.as(spot, 0)).append(' ');
        }
        return row.toString();
    }

    private static void image(Due due) {
        due.says(47, "All but THE TAPE and SHEETS is kept: 1.");
        EnvyRust x = town();
        String before = Due.seen(x);
        String held = spots(x);
        due.leaves(x, "image()", x::image, 1);
        spoil(x);
        due.is("all is another", before.equals(Due.seen(x)) ? 1 : 0, 0);
        x.undo();
        due.same("all is kept", before, Due.seen(x));
        due.same("spots are kept", held, spots(x));
        EnvyRust y = town();
        Due.feed(y, "looker;");
        Due.sheet(y, 0, 8, 1, 2);
        y.image();
        Due.feed(y, "child;");
        Due.sheet(y, 1, 16, 3);
        y.write(0, 1, 9);
        y.undo();
        due.is("the tape isn't kept", y.count(5), 13);
        due.is("sheets aren't kept", y.load(1), 1);
        due.is("sheets aren't kept", y.thingOf(0, 2), 3);
        due.is("nor are numbers", y.load(0), 2);
        due.is("nor are numbers", y.thingOf(1, 2), 9);
        y.wipe();
        y.sheet(0, 0, 0);
        y.undo();
        due.is("a tape that was wiped stays so", y.count(5), 0);
        due.is("what was made missing stays so", y.load(0), Due.MISSING);
        EnvyRust none = new EnvyRust();
        due.is("image() of nothing", none.image(), 1);
        spoil(none);
        due.is("undo()", none.undo(), 0);
        due.same("as new", Due.seen(new EnvyRust()), Due.seen(none));
    }

    private static void undo(Due due) {
        due.says(48, "It becomes what was kept latest (which stays): DAY.");
        EnvyRust x = town();
        x.image();
        String first = Due.seen(x);
        due.leaves(x, "undo() at once", x::undo, 4);
        for (int i = 0; i < 3; i++) {
            spoil(x);
            due.is("undo()", x.undo(), 4);
            due.same("each time", first, Due.seen(x));
        }
        x.go(1);
        x.image();
        String second = Due.seen(x);
        spoil(x);
        due.is("the latest", x.undo(), 5);
        due.same("the latest", second, Due.seen(x));
        due.is("not the one ahead", x.undo(), 5);
        EnvyRust y = new EnvyRust();
        y.image();
        for (int i = 0; i < 8; i++) {
            y.thing(i % 4, i);
            y.forge(i, 5, i - 1);
            y.person(i % 7, i);
        }
        due.is("undo()", y.undo(), 0);
        due.is("a thing anew", y.thing(0, 0), 0);
        due.is("as new", y.thingOf(0, 5), -1);
        due.is("one anew", y.person(0, 5), 0);
        due.is("nobody else is there", y.thingOf(0, 6), 0);
        due.says(48, "NONE: nothing is kept.");
        EnvyRust none = town();
        due.refuses(none, Due.NONE, "undo()", none::undo);
        none.image();
        due.leaves(none, "undo()", none::undo, 4);
        none.tear();
        due.refuses(none, Due.NONE, "undo()", none::undo);
    }

    private static void tear(Due due) {
        due.says(49, "Nothing is kept: 1 if something was, else 0.");
        EnvyRust x = town();
        due.leaves(x, "tear()", x::tear, 0);
        x.image();
        due.leaves(x, "tear()", x::tear, 1);
        due.leaves(x, "tear()", x::tear, 0);
        due.refuses(x, Due.NONE, "undo()", x::undo);
        x.image();
        x.image();
        x.undo();
        due.leaves(x, "tear() of two, one of which is undone", x::tear, 1);
        due.leaves(x, "tear()", x::tear, 0);
        due.refuses(x, Due.NONE, "undo()", x::undo);
    }

    private static void count(Due due) {
        due.says(50, "0 DAY, 1 THINGS, 2 PEOPLE, 3 THINGS that are GONE, 4 THICK of all together, 5 bytes of THE TAPE, 6 z, 7 SPOTS that hold something.");
        EnvyRust x = new EnvyRust();
        for (int i = 0; i < 8; i++) {
            x.thing(0, 0);
            x.person(0, 1);
            x.forge(i, 2, 999);
        }
        for (int i = 0; i < 30; i++) {
            x.feed(0, 4);
        }
        for (int spot = 0; spot <= 9; spot++) {
            x.hold(spot, 7);
        }
        x.seed(MOST);
        x.go(1);
        int[] most = {1, 8, 8, 0, 7992, 120, MOST, 10};
        for (int what = 0; what <= 7; what++) {
            int w = what;
            due.leaves(x, "count(" + w + ")", () -> x.count(w), most[w]);
        }
        for (int i = 0; i < 8; i++) {
            x.forge(i, 2, 1);
            due.is("thick together", x.count(4), 999 * (7 - i) + i + 1);
        }
        for (int i = 0; i < 8; i++) {
            x.forge(i, 2, 0);
            due.is("gone", x.count(3), i + 1);
        }
        due.is("gone ones are things", x.count(1), 8);
        EnvyRust faulty = Due.town("thing 0");
        Due.read(faulty, "looker; thing 0 thick 50; thing 0 thick 0;");
        int[] few = {0, 1, 0, 0, 100, 0, 1, 0};
        for (int what = 0; what <= 7; what++) {
            int w = what;
            due.leaves(faulty, "count(" + w + ") behind a fault", () -> faulty.count(w), few[w]);
        }
        due.says(50, "BEYOND: another what.");
        due.outside(x, "count", 0, 7, x::count);
    }

    private static void status(Due due) {
        due.says(51, "How many acts answered a finding ever (undo() takes none back): which -1: all, 0 to 6: BEYOND to SIZE.");
        EnvyRust x = town();
        x.image();
        int[] told = new int[7];
        for (int round = 1; round <= 3; round++) {
            x.count(8);
            told[0]++;
            while (x.thing(0, 0) != Due.FULL) {
                due.is("what is done is no finding", x.status(1), told[1]);
            }
            told[1]++;
            x.as(0, 4);
            x.as(9, 5);
            told[2] += 2;
            x.lasts(0);
            told[3]++;
            x.forge(0, 5, 1);
            told[4]++;
            x.load(2);
            told[5]++;
            x.sheet(0, 8, -1);
            told[6]++;
            int all = 0;
            for (int which = 0; which <= 6; which++) {
                int w = which;
                due.leaves(x, "status(" + w + ")", () -> x.status(w), told[w]);
                all += told[w];
            }
            int sum = all;
            due.leaves(x, "status(-1)", () -> x.status(-1), sum);
            x.undo();
            due.is("undo() takes none back", x.status(-1), all);
            x.tear();
            due.is("tear() takes none back", x.status(-1), all);
            x.image();
        }
        x.text();
        due.is("a fault is no finding", x.status(-1), 24);
        due.says(51, "BEYOND (counted from then on): another one.");
        EnvyRust y = new EnvyRust();
        int[] others = {-2, 7, 8, LEAST, MOST};
        for (int i = 0; i < others.length; i++) {
            due.is("status(" + others[i] + ")", y.status(others[i]), Due.BEYOND);
            due.is("status(0)", y.status(0), i + 1);
            due.is("status(-1)", y.status(-1), i + 1);
        }
        due.outside(y, "status", -1, 6, y::status);
    }

    /** The document asks for 512 calls: the last one is answered as the first. */
    private static void lastCall(Due due) {
        EnvyRust x = new EnvyRust();
        for (int i = 1; i <= 509; i++) {
            due.is("thing(4, 0)", x.thing(4, 0), Due.BEYOND);
        }
        due.is("call 510", x.status(0), 509);
        due.is("call 511", x.thing(3, 15), 0);
        due.is("call 512", x.thingOf(0, 1), 15);
    }
}
