/** Promises 1 to 8: a new object, things, people, envy. */
public final class ThingsPeopleTest {
    private static final int LEAST = Integer.MIN_VALUE;
    private static final int MOST = Integer.MAX_VALUE;

    public static void main(String[] args) {
        Due due = new Due();
        newObject(due);
        thing(due);
        thingOf(due);
        forge(due);
        person(due);
        of(due);
        change(due);
        envy(due);
        due.end();
    }

    private static void newObject(Due due) {
        due.promise(1, "a new object");
        EnvyRust x = new EnvyRust();
        int[] first = {0, 0, 0, 0, 0, 0, 1, 0};
        for (int what = 0; what < first.length; what++) {
            due.is("count(" + what + ")", x.count(what), first[what]);
        }
        for (int which = -1; which <= 6; which++) {
            due.is("status(" + which + ")", x.status(which), 0);
        }
        due.is("tear()", x.tear(), 0);
        due.is("undo()", x.undo(), Due.NONE);
        due.is("wipe()", x.wipe(), 0);
        for (int s = 0; s < 4; s++) {
            due.is("judge(" + s + ")", x.judge(s), Due.MISSING);
        }
        for (int spot = 0; spot < 10; spot++) {
            due.is("as(" + spot + ", 0)", x.as(spot, 0), Due.MISSING);
        }
        EnvyRust other = new EnvyRust();
        other.thing(0, 0);
        due.is("count(1) of another object", x.count(1), 0);
    }

    private static void thing(Due due) {
        due.promise(2, "thing");
        EnvyRust x = new EnvyRust();
        due.refuses(x, Due.BEYOND, "thing(-1, 0)", () -> x.thing(-1, 0));
        due.refuses(x, Due.BEYOND, "thing(4, 0)", () -> x.thing(4, 0));
        due.refuses(x, Due.BEYOND, "thing(0, -1)", () -> x.thing(0, -1));
        due.refuses(x, Due.BEYOND, "thing(0, 16)", () -> x.thing(0, 16));
        due.refuses(x, Due.BEYOND, "thing(MOST, LEAST)", () -> x.thing(MOST, LEAST));
        for (int number = 0; number < 8; number++) {
            due.is("thing", x.thing(number % 4, 15 - number), number);
            int[] told = {number % 4, 15 - number, 100, 0, -1, -1, 0};
            for (int what = 0; what <= 6; what++) {
                due.is("thingOf(" + number + ", " + what + ")", x.thingOf(number, what), told[what]);
            }
        }
        due.refuses(x, Due.FULL, "a 9th thing", () -> x.thing(3, 15));
        due.refuses(x, Due.BEYOND, "a 9th thing of no sort", () -> x.thing(4, 15));
        due.refuses(x, Due.BEYOND, "a 9th thing at no place", () -> x.thing(3, 16));
    }

    private static void thingOf(Due due) {
        due.promise(3, "thingOf");
        EnvyRust x = Due.town("looker at 5 likes 1 2 3 4; child at 5 likes 1 2 3 4",
            "thing 3 at 5 thick 70 paint 1; thing 2 at 6 of 1 on 0; thing 0 at 5 of 0");
        int[] told = {3, 5, 70, 1, -1, -1, 3 + 6};
        for (int what = 0; what <= 6; what++) {
            due.is("thingOf(0, " + what + ")", x.thingOf(0, what), told[what]);
        }
        due.is("thingOf(1, 4)", x.thingOf(1, 4), 1);
        due.is("thingOf(1, 5)", x.thingOf(1, 5), 0);
        due.is("what nobody is at isn't worn", x.thingOf(1, 6), 0);
        due.is("an owner wears nothing of its own", x.thingOf(2, 6), 2);
        due.leaves(x, "thingOf(0, 6)", () -> x.thingOf(0, 6), 9);
        wornNow(due, x);
        due.refuses(x, Due.BEYOND, "thingOf(3, 0)", () -> x.thingOf(3, 0));
        due.refuses(x, Due.BEYOND, "thingOf(-1, 0)", () -> x.thingOf(-1, 0));
        due.refuses(x, Due.BEYOND, "thingOf(0, 7)", () -> x.thingOf(0, 7));
        due.refuses(x, Due.BEYOND, "thingOf(0, -1)", () -> x.thingOf(0, -1));
        due.refuses(x, Due.BEYOND, "thingOf(LEAST, MOST)", () -> x.thingOf(LEAST, MOST));
    }

    /** Thing 0 is envied by 9 where it is, and thing 1 hangs on it. */
    private static void wornNow(Due due, EnvyRust x) {
        int[] thick = {999, 10, 9, 8, 4, 1, 0};
        int[] worn = {9, 9, 9, 8, 4, 1, 0};
        for (int i = 0; i < thick.length; i++) {
            x.forge(0, 2, thick[i]);
            due.leaves(x, "thingOf(0, 6), " + thick[i] + " thick", () -> x.thingOf(0, 6), worn[i]);
        }
        due.is("what falls isn't worn", x.thingOf(1, 6), 0);
        EnvyRust y = Due.town("thief at 5 likes 9 0 0 0; modest at 5 likes 9 0 0 0; child at 5 likes 0 9 0 0",
            "thing 0 at 5 thick 3; thing 1 at 5 thick 17; thing 1 at 5 thick 18; thing 1 at 5 thick 19");
        int[] left = {3, 17, 18, 18};
        for (int i = 0; i < left.length; i++) {
            due.is("thingOf(" + i + ", 6) by several", y.thingOf(i, 6), left[i]);
        }
        due.is("as a day wears them", y.go(1), 3);
        due.is("as a day wears them", y.now(2), 1);
    }

    private static void forge(Due due) {
        due.promise(4, "forge");
        EnvyRust x = new EnvyRust();
        x.thing(1, 2);
        x.thing(0, 0);
        x.thing(0, 0);
        x.person(0, 0);
        x.person(0, 0);
        int[] first = {1, 2, 100, 0, -1, -1};
        int[] least = {0, 0, 0, 0, -1, -1};
        int[] most = {3, 15, 999, 9, 1, 2};
        for (int what = 0; what <= 5; what++) {
            int w = what;
            due.is("forge(0, " + w + ", most)", x.forge(0, w, most[w]), first[w]);
            due.is("thingOf(0, " + w + ")", x.thingOf(0, w), most[w]);
            due.refuses(x, Due.BEYOND, "forge(0, " + w + ", too much)", () -> x.forge(0, w, most[w] + 1));
            due.refuses(x, Due.BEYOND, "forge(0, " + w + ", MOST)", () -> x.forge(0, w, MOST));
            due.is("forge(0, " + w + ", least)", x.forge(0, w, least[w]), most[w]);
            due.is("thingOf(0, " + w + ")", x.thingOf(0, w), least[w]);
            due.refuses(x, Due.BEYOND, "forge(0, " + w + ", too little)", () -> x.forge(0, w, least[w] - 1));
            due.refuses(x, Due.BEYOND, "forge(0, " + w + ", LEAST)", () -> x.forge(0, w, LEAST));
        }
        due.refuses(x, Due.BEYOND, "forge(0, 6, 0)", () -> x.forge(0, 6, 0));
        due.refuses(x, Due.BEYOND, "forge(0, -1, 0)", () -> x.forge(0, -1, 0));
        due.refuses(x, Due.BEYOND, "forge(3, 0, 0)", () -> x.forge(3, 0, 0));
        due.refuses(x, Due.BEYOND, "forge(-1, 0, 0)", () -> x.forge(-1, 0, 0));
        forgeHangs(due);
    }

    private static void forgeHangs(Due due) {
        EnvyRust x = new EnvyRust();
        for (int i = 0; i < 8; i++) {
            x.thing(0, i);
        }
        for (int i = 1; i < 8; i++) {
            due.is("forge(" + i + ", 5, " + (i - 1) + ")", x.forge(i, 5, i - 1), -1);
        }
        for (int i = 1; i < 8; i++) {
            int on = i;
            due.refuses(x, Due.STATE, "forge(0, 5, " + i + ")", () -> x.forge(0, 5, on));
        }
        due.refuses(x, Due.BEYOND, "on itself", () -> x.forge(4, 5, 4));
        due.refuses(x, Due.STATE, "on what hangs on it", () -> x.forge(4, 5, 5));
        due.is("on what it hangs on already", x.forge(4, 5, 3), 3);
        due.is("on one further up", x.forge(4, 5, 0), 3);
        due.is("on one that hangs on it no more", x.forge(3, 5, 7), 2);
        due.refuses(x, Due.STATE, "round about now", () -> x.forge(0, 5, 3));
        due.is("thingOf(3, 5)", x.thingOf(3, 5), 7);
        EnvyRust y = Due.town("thing 0; thing 0; thing 0");
        due.is("forge(0, 5, 2)", y.forge(0, 5, 2), -1);
        due.refuses(y, Due.STATE, "each on the other", () -> y.forge(2, 5, 0));
        due.is("what is gone stays hung", x.forge(0, 2, 0), 100);
        due.is("and fells nothing by itself", x.now(1), 1);
    }

    private static void person(Due due) {
        due.promise(5, "person");
        EnvyRust x = new EnvyRust();
        due.refuses(x, Due.BEYOND, "person(-1, 0)", () -> x.person(-1, 0));
        due.refuses(x, Due.BEYOND, "person(7, 0)", () -> x.person(7, 0));
        due.refuses(x, Due.BEYOND, "person(0, -1)", () -> x.person(0, -1));
        due.refuses(x, Due.BEYOND, "person(0, 16)", () -> x.person(0, 16));
        for (int number = 0; number < 8; number++) {
            due.is("person", x.person(number % 7, 8 + number), number);
            int[] told = {number % 7, 8 + number, 1, 1, 1, 1, 1, 0};
            for (int what = 0; what <= 7; what++) {
                due.is("of(" + number + ", " + what + ")", x.of(number, what), told[what]);
            }
        }
        due.refuses(x, Due.FULL, "a 9th one", () -> x.person(0, 0));
        due.refuses(x, Due.BEYOND, "a 9th one of no kind", () -> x.person(7, 0));
    }

    private static void of(Due due) {
        due.promise(6, "of");
        EnvyRust x = Due.town("looker; thief at 15 walks 14 likes 9 8 7 6; thing 0 of 1; thing 0 of 0; thing 0; thing 0 of 1");
        int[] told = {4, 15, 14, 9, 8, 7, 6, 1 | 8};
        for (int what = 0; what <= 7; what++) {
            int w = what;
            due.leaves(x, "of(1, " + w + ")", () -> x.of(1, w), told[w]);
        }
        due.is("of(0, 7)", x.of(0, 7), 2);
        x.forge(0, 2, 0);
        due.is("what is gone is still its own", x.of(1, 7), 9);
        due.refuses(x, Due.BEYOND, "of(0, 8)", () -> x.of(0, 8));
        due.refuses(x, Due.BEYOND, "of(0, -1)", () -> x.of(0, -1));
        due.refuses(x, Due.BEYOND, "of(2, 0)", () -> x.of(2, 0));
        due.refuses(x, Due.BEYOND, "of(-1, 7)", () -> x.of(-1, 7));
        due.refuses(x, Due.BEYOND, "of(MOST, 0)", () -> x.of(MOST, 0));
    }

    private static void change(Due due) {
        due.promise(7, "change");
        EnvyRust x = Due.town("looker; modest at 3; rival");
        int[] first = {1, 3, 1, 1, 1, 1, 1};
        int[] most = {6, 15, 15, 9, 9, 9, 9};
        for (int what = 0; what <= 6; what++) {
            int w = what;
            due.is("change(1, " + w + ", most)", x.change(1, w, most[w]), first[w]);
            due.is("of(1, " + w + ")", x.of(1, w), most[w]);
            due.refuses(x, Due.BEYOND, "change(1, " + w + ", too much)", () -> x.change(1, w, most[w] + 1));
            due.refuses(x, Due.BEYOND, "change(1, " + w + ", MOST)", () -> x.change(1, w, MOST));
            due.is("change(1, " + w + ", 0)", x.change(1, w, 0), most[w]);
            due.is("of(1, " + w + ")", x.of(1, w), 0);
            due.refuses(x, Due.BEYOND, "change(1, " + w + ", -1)", () -> x.change(1, w, -1));
        }
        due.is("others stay", x.of(0, 3) * 100 + x.of(2, 0) * 10 + x.of(2, 2), 121);
        due.refuses(x, Due.BEYOND, "change(1, 7, 0)", () -> x.change(1, 7, 0));
        due.refuses(x, Due.BEYOND, "change(1, -1, 0)", () -> x.change(1, -1, 0));
        due.refuses(x, Due.BEYOND, "change(3, 0, 0)", () -> x.change(3, 0, 0));
        due.refuses(x, Due.BEYOND, "change(-1, 0, 0)", () -> x.change(-1, 0, 0));
    }

    /** One of each kind (its number is its kind), all of them liking sort 0 by 7. */
    private static EnvyRust oneOfEach() {
        EnvyRust x = new EnvyRust();
        for (int kind = 0; kind <= 6; kind++) {
            x.person(kind, kind);
            x.change(kind, 3, 7);
        }
        x.thing(0, 0);
        return x;
    }

    private static void envies(Due due, EnvyRust x, String when, int... want) {
        for (int kind = 0; kind <= 6; kind++) {
            int k = kind;
            due.leaves(x, "envy(" + k + ", 0), " + when, () -> x.envy(k, 0), want[k]);
        }
    }

    private static void envy(Due due) {
        due.promise(8, "envy");
        EnvyRust x = oneOfEach();
        envies(due, x, "nobody's", 7, 3, 7, 4, 5, 14, 0);
        x.forge(0, 2, 99);
        envies(due, x, "too thin for a thief", 7, 3, 7, 4, 4, 14, 0);
        x.forge(0, 2, 999);
        envies(due, x, "999 thick", 7, 3, 7, 4, 13, 14, 0);
        x.forge(0, 3, 2);
        envies(due, x, "painted 2", 5, 2, 5, 2, 11, 10, 0);
        x.forge(0, 4, 0);
        envies(due, x, "a looker's", 0, 2, 5, 2, 11, 10, 2);
        x.forge(0, 4, 2);
        envies(due, x, "a rival's", 5, 2, 0, 4, 13, 10, 2);
        x.forge(0, 4, 3);
        envies(due, x, "a praiser's", 5, 2, 7, 0, 13, 10, 2);
        x.forge(0, 4, 4);
        envies(due, x, "a thief's", 5, 2, 7, 4, 0, 10, 2);
        x.forge(0, 4, 6);
        envies(due, x, "a beggar's", 5, 2, 5, 2, 11, 10, 0);
        x.forge(0, 4, 3);
        x.forge(0, 3, 9);
        envies(due, x, "painted 9", 0, 0, 0, 0, 0 + 7 - 9 + 2 - 3 + 9, 0, 0);
        x.forge(0, 2, 500);
        envies(due, x, "painted 9, 500 thick", 0, 0, 0, 0, 0 + 7 - 9 + 2 - 3 + 5, 0, 0);
        x.forge(0, 4, 5);
        envies(due, x, "a child's", 0, 0, 0, 0, 0, 0, 0);
        x.forge(0, 3, 0);
        x.forge(0, 2, 0);
        envies(due, x, "gone", 0, 0, 0, 0, 0, 0, 0);
        x.forge(0, 2, 1);
        x.forge(0, 0, 3);
        envies(due, x, "of a sort liked by 1", 1, 0, 1, 0, 0, 0, 0);
        x.forge(0, 3, 9);
        x.forge(0, 2, 999);
        x.forge(0, 4, -1);
        x.change(4, 6, 3);
        due.is("a thief's, cut at 0 only at the end", x.envy(4, 0), 0);
        x.change(4, 6, 4);
        due.is("a thief's, cut at 0 only at the end", x.envy(4, 0), 4 - 9 - 3 + 9);
        due.refuses(x, Due.BEYOND, "envy(7, 0)", () -> x.envy(7, 0));
        due.refuses(x, Due.BEYOND, "envy(-1, 0)", () -> x.envy(-1, 0));
        due.refuses(x, Due.BEYOND, "envy(0, 1)", () -> x.envy(0, 1));
        due.refuses(x, Due.BEYOND, "envy(0, -1)", () -> x.envy(0, -1));
    }
}
