/** Each sentence of promises 1 to 8 at its boundaries. */
public final class ThingsPeopleBoundsTest {
    private static final int LEAST = Integer.MIN_VALUE;
    private static final int MOST = Integer.MAX_VALUE;

    public static void main(String[] args) {
        Due due = new Due();
        newObject(due);
        thing(due);
        thingOf(due);
        wornNow(due);
        forge(due);
        forgeRound(due);
        person(due);
        of(due);
        change(due);
        envy(due);
        due.end();
    }

    private static void newObject(Due due) {
        due.says(1, "All as at first; no THINGS, nobody; THE TAPE is empty, no image is kept.");
        EnvyRust other = Due.town("looker; thing 0");
        other.hold(0, 0);
        other.sheet(0, 8, 1);
        other.seed(5);
        other.go(1);
        other.image();
        other.feed(0, 4);
        EnvyRust x = new EnvyRust();
        due.refuses(x, Due.BEYOND, "no thing", () -> x.thingOf(0, 0));
        due.refuses(x, Due.BEYOND, "nobody", () -> x.of(0, 0));
        due.refuses(x, Due.NONE, "no image", x::undo);
        due.is("no image", x.tear(), 0);
        due.is("day", x.now(0), 0);
        due.is("things", x.count(1), 0);
        due.is("people", x.count(2), 0);
        due.is("gone", x.count(3), 0);
        due.is("thick", x.count(4), 0);
        due.is("bytes", x.count(5), 0);
        due.is("z", x.count(6), 1);
        due.is("spots", x.count(7), 0);
        for (int s = 0; s <= 3; s++) {
            int sheet = s;
            due.refuses(x, Due.MISSING, "sheet " + s, () -> x.load(sheet));
        }
        EnvyRust y = new EnvyRust();
        for (int which = -1; which <= 6; which++) {
            due.is("status(" + which + ")", y.status(which), 0);
        }
        due.is("now(1)", y.now(1), 0);
        due.is("now(2)", y.now(2), 0);
        due.is("now(3)", y.now(3), 0);
        due.is("now(4)", y.now(4), 0);
        due.is("the first thing", y.thing(0, 0), 0);
        due.is("the first one", y.person(0, 0), 0);
        for (int i = 1; i <= 30; i++) {
            due.is("120 bytes go on the tape", y.feed(0, 4), 4 * i);
        }
    }

    private static void thing(Due due) {
        due.says(2, "A new THING of a SORT AT a PLACE: its number.");
        EnvyRust x = new EnvyRust();
        int[][] those = {{0, 0}, {3, 15}, {0, 15}, {3, 0}, {1, 1}, {2, 14}, {2, 7}, {1, 8}};
        for (int i = 0; i < 8; i++) {
            due.is("thing", x.thing(those[i][0], those[i][1]), i);
            due.is("its sort", x.thingOf(i, 0), those[i][0]);
            due.is("its place", x.thingOf(i, 1), those[i][1]);
            due.is("how many", x.count(1), i + 1);
        }
        due.says(2, "BEYOND.");
        EnvyRust y = new EnvyRust();
        due.outside(y, "thing of sort", 0, 3, v -> y.thing(v, 0));
        due.outside(y, "thing of sort", 0, 3, v -> y.thing(v, 15));
        due.outside(y, "thing at place", 0, 15, v -> y.thing(0, v));
        due.outside(y, "thing at place", 0, 15, v -> y.thing(3, v));
        due.outside(x, "thing of sort, and full", 0, 3, v -> x.thing(v, 0));
        due.outside(x, "thing at place, and full", 0, 15, v -> x.thing(0, v));
        due.says(2, "FULL.");
        due.refuses(x, Due.FULL, "a 9th", () -> x.thing(0, 0));
        due.refuses(x, Due.FULL, "a 9th", () -> x.thing(3, 15));
        EnvyRust z = new EnvyRust();
        for (int i = 0; i < 7; i++) {
            z.thing(0, 0);
        }
        z.forge(0, 2, 0);
        due.is("an 8th", z.thing(0, 0), 7);
        due.refuses(z, Due.FULL, "what is gone makes no room", () -> z.thing(0, 0));
    }

    private static void thingOf(Due due) {
        due.says(3, "Of a THING: what 0 SORT, 1 AT, 2 THICK, 3 PAINT, 4 OWNER, 5 on what it HANGS, 6 how much it would be worn now.");
        EnvyRust x = Due.town("looker at 15 likes 0 0 0 9; looker at 15 likes 0 0 0 9; looker at 14 likes 0 0 0 9; looker at 0 likes 0 0 0 9",
            "thing 0; thing 3 at 15 thick 999 paint 1 of 1 on 0; thing 0 thick 0");
        int[][] told = {{0, 0, 100, 0, -1, -1, 0}, {3, 15, 999, 1, 1, 0, 8}, {0, 0, 0, 0, -1, -1, 0}};
        for (int thing = 0; thing < 3; thing++) {
            for (int what = 0; what <= 6; what++) {
                int t = thing;
                int w = what;
                due.leaves(x, "thingOf(" + t + ", " + w + ")", () -> x.thingOf(t, w), told[t][w]);
            }
        }
        due.says(3, "BEYOND.");
        due.outside(x, "thingOf thing", 0, 2, v -> x.thingOf(v, 0));
        due.outside(x, "thingOf thing", 0, 2, v -> x.thingOf(v, 6));
        due.outside(x, "thingOf what", 0, 6, v -> x.thingOf(0, v));
        EnvyRust none = new EnvyRust();
        due.refuses(none, Due.BEYOND, "there is none", () -> none.thingOf(0, 0));
        due.refuses(none, Due.BEYOND, "there is none", () -> none.thingOf(0, 6));
    }

    private static void wornNow(Due due) {
        due.says(3, "6 how much it would be worn now.");
        EnvyRust x = new EnvyRust();
        x.thing(0, 5);
        for (int one = 0; one < 8; one++) {
            x.person(0, 5);
            x.change(one, 3, 9);
            due.is("by " + (one + 1), x.thingOf(0, 6), 9 * (one + 1));
        }
        int[][] thick = {{0, 0}, {1, 1}, {71, 71}, {72, 72}, {73, 72}, {999, 72}};
        for (int[] row : thick) {
            x.forge(0, 2, row[0]);
            due.leaves(x, row[0] + " thick", () -> x.thingOf(0, 6), row[1]);
        }
        x.change(3, 1, 4);
        x.change(4, 1, 6);
        due.is("whoever is a place off wears nothing", x.thingOf(0, 6), 54);
        x.forge(0, 4, 0);
        due.is("nor does its owner", x.thingOf(0, 6), 45);
        x.forge(0, 3, 8);
        due.is("painted 8", x.thingOf(0, 6), 5);
        x.forge(0, 3, 9);
        due.is("painted 9", x.thingOf(0, 6), 0);
    }

    private static void forge(Due due) {
        due.says(4, "SORT (what 0), AT (1), THICK (2), PAINT (3), OWNER (4: -1 nobody), on what it HANGS (5: -1 none, not itself) becomes v: what it was.");
        int[] first = {0, 0, 100, 0, -1, -1};
        int[] least = {0, 0, 0, 0, -1, -1};
        int[] most = {3, 15, 999, 9, 7, 7};
        EnvyRust x = new EnvyRust();
        for (int i = 0; i < 8; i++) {
            x.thing(0, 0);
            x.person(0, 9);
        }
        for (int what = 0; what <= 5; what++) {
            int w = what;
            int[] values = {most[w], least[w], most[w] - 1, least[w] + 1, least[w]};
            int before = first[w];
            for (int v : values) {
                if (w != 5 || v != 3) {
                    due.is("forge(3, " + w + ", " + v + ")", x.forge(3, w, v), before);
                    due.is("thingOf(3, " + w + ")", x.thingOf(3, w), v);
                    before = v;
                }
            }
            due.is("the one ahead stays", x.thingOf(2, w), first[w]);
            due.is("the next one stays", x.thingOf(4, w), first[w]);
        }
        due.says(4, "BEYOND.");
        for (int what = 0; what <= 5; what++) {
            int w = what;
            due.outside(x, "forge what " + w + " to", least[w], most[w], v -> x.forge(3, w, v));
            due.outside(x, "forge what " + w + " of thing", 0, 7, v -> x.forge(v, w, 0));
        }
        due.outside(x, "forge what", 0, 5, v -> x.forge(3, v, 0));
        for (int thing = 0; thing < 8; thing++) {
            int t = thing;
            due.refuses(x, Due.BEYOND, t + " on itself", () -> x.forge(t, 5, t));
            due.is(t + " on none", x.forge(t, 5, -1), -1);
        }
        EnvyRust none = Due.town("thing 0");
        due.refuses(none, Due.BEYOND, "somebody's, and there is nobody", () -> none.forge(0, 4, 0));
        due.is("nobody's", none.forge(0, 4, -1), -1);
    }

    private static void forgeRound(Due due) {
        due.says(4, "STATE: it would hang on itself round about.");
        EnvyRust x = new EnvyRust();
        for (int i = 0; i < 8; i++) {
            x.thing(0, 0);
        }
        due.is("0 on 1", x.forge(0, 5, 1), -1);
        due.refuses(x, Due.STATE, "round by two", () -> x.forge(1, 5, 0));
        due.is("1 on 2", x.forge(1, 5, 2), -1);
        due.refuses(x, Due.STATE, "round by three", () -> x.forge(2, 5, 0));
        due.refuses(x, Due.STATE, "round by two of three", () -> x.forge(2, 5, 1));
        for (int i = 2; i < 7; i++) {
            due.is(i + " on " + (i + 1), x.forge(i, 5, i + 1), -1);
        }
        due.refuses(x, Due.STATE, "round by eight", () -> x.forge(7, 5, 0));
        due.refuses(x, Due.STATE, "round by two of eight", () -> x.forge(7, 5, 6));
        due.is("the last off", x.forge(6, 5, -1), 7);
        due.is("then the other way round", x.forge(7, 5, 0), -1);
        due.refuses(x, Due.STATE, "round by eight now", () -> x.forge(6, 5, 7));
        due.is("on what it hangs on by another", x.forge(0, 5, 6), 1);
        due.is("on what is beside it", x.forge(1, 5, 7), 2);
        due.is("7 on 0 on 6, 1 on 7: depth", x.depth(1), 3);
    }

    private static void person(Due due) {
        due.says(5, "One more of PEOPLE AT a PLACE: the number.");
        EnvyRust x = new EnvyRust();
        int[][] those = {{0, 0}, {6, 15}, {0, 15}, {6, 0}, {1, 1}, {5, 14}, {3, 7}, {4, 8}};
        for (int i = 0; i < 8; i++) {
            due.is("person", x.person(those[i][0], those[i][1]), i);
            due.is("the kind", x.of(i, 0), those[i][0]);
            due.is("the place", x.of(i, 1), those[i][1]);
            due.is("how many", x.count(2), i + 1);
        }
        due.says(5, "BEYOND.");
        EnvyRust y = new EnvyRust();
        due.outside(y, "person of kind", 0, 6, v -> y.person(v, 0));
        due.outside(y, "person of kind", 0, 6, v -> y.person(v, 15));
        due.outside(y, "person at place", 0, 15, v -> y.person(0, v));
        due.outside(y, "person at place", 0, 15, v -> y.person(6, v));
        due.outside(x, "person of kind, and full", 0, 6, v -> x.person(v, 0));
        due.outside(x, "person at place, and full", 0, 15, v -> x.person(0, v));
        due.says(5, "FULL.");
        due.refuses(x, Due.FULL, "a 9th", () -> x.person(0, 0));
        due.refuses(x, Due.FULL, "a 9th", () -> x.person(6, 15));
        due.is("things have their own room", x.thing(0, 0), 0);
    }

    private static void of(Due due) {
        due.says(6, "Of one: what 0 KIND, 1 AT, 2 WALK, 3 to 6 how much it LIKES SORT 0 to 3, 7 THINGS whose OWNER it is, as a set.");
        EnvyRust x = Due.town("looker; beggar at 15 walks 15 likes 9 0 8 1", "thing 0 of 1; thing 0 of 0; thing 0; thing 0 thick 0 of 1", "thing 0; thing 0; thing 0; thing 0 of 1");
        int[][] told = {{0, 0, 1, 1, 1, 1, 1, 2}, {6, 15, 15, 9, 0, 8, 1, 1 + 8 + 128}};
        for (int one = 0; one < 2; one++) {
            for (int what = 0; what <= 7; what++) {
                int p = one;
                int w = what;
                due.leaves(x, "of(" + p + ", " + w + ")", () -> x.of(p, w), told[p][w]);
            }
        }
        x.forge(1, 4, -1);
        due.is("none", x.of(0, 7), 0);
        for (int thing = 0; thing < 8; thing++) {
            x.forge(thing, 4, 0);
        }
        due.is("all", x.of(0, 7), 255);
        due.is("none", x.of(1, 7), 0);
        due.says(6, "BEYOND.");
        for (int what = 0; what <= 7; what++) {
            int w = what;
            due.outside(x, "of what " + w + " of", 0, 1, v -> x.of(v, w));
        }
        due.outside(x, "of what", 0, 7, v -> x.of(0, v));
        EnvyRust none = Due.town("thing 0");
        due.refuses(none, Due.BEYOND, "of(-1, 7): nobody is no one", () -> none.of(-1, 7));
        due.refuses(none, Due.BEYOND, "of(0, 7)", () -> none.of(0, 7));
    }

    private static void change(Due due) {
        due.says(7, "KIND (what 0), AT (1), WALK (2), how much it LIKES a SORT (3 to 6) becomes v: what it was.");
        int[] first = {0, 9, 1, 1, 1, 1, 1};
        int[] most = {6, 15, 15, 9, 9, 9, 9};
        EnvyRust x = new EnvyRust();
        for (int i = 0; i < 8; i++) {
            x.person(0, 9);
        }
        for (int one = 0; one < 8; one += 7) {
            for (int what = 0; what <= 6; what++) {
                int[] values = {most[what], 0, most[what] - 1, 1, 0};
                int before = first[what];
                for (int v : values) {
                    due.is("change(" + one + ", " + what + ", " + v + ")", x.change(one, what, v), before);
                    due.is("of(" + one + ", " + what + ")", x.of(one, what), v);
                    before = v;
                }
                due.is("others stay", x.of(1, what), first[what]);
                due.is("others stay", x.of(6, what), first[what]);
            }
        }
        due.says(7, "BEYOND.");
        for (int what = 0; what <= 6; what++) {
            int w = what;
            due.outside(x, "change what " + w + " to", 0, most[w], v -> x.change(7, w, v));
            due.outside(x, "change what " + w + " of", 0, 7, v -> x.change(v, w, 0));
        }
        due.outside(x, "change what", 0, 6, v -> x.change(0, v, 0));
        due.refuses(x, Due.BEYOND, "change(LEAST, MOST, LEAST)", () -> x.change(LEAST, MOST, LEAST));
        EnvyRust none = new EnvyRust();
        due.refuses(none, Due.BEYOND, "there is nobody", () -> none.change(0, 1, 0));
    }

    private static void envy(Due due) {
        due.says(8, "ENVY (wherever it is).");
        EnvyRust x = Due.town("looker at 3 likes 7 0 0 0; thing 0 at 3");
        for (int place = 0; place <= 15; place++) {
            x.change(0, 1, place);
            due.leaves(x, "envy from " + place, () -> x.envy(0, 0), 7);
        }
        due.says(8, "BEYOND.");
        for (int i = 1; i < 8; i++) {
            int one = i;
            due.refuses(x, Due.BEYOND, "not there yet", () -> x.envy(one, 0));
            due.refuses(x, Due.BEYOND, "not there yet", () -> x.envy(0, one));
            x.person(0, 0);
            x.thing(0, 0);
            due.is("there now", x.envy(one, one), 1);
        }
        due.outside(x, "envy of", 0, 7, v -> x.envy(v, 0));
        due.outside(x, "envy for", 0, 7, v -> x.envy(0, v));
        due.refuses(x, Due.BEYOND, "both", () -> x.envy(-1, 8));
    }
}
