/** The sentences of Terms, but for findings (FindingsTest) and texts (TextTermsTest), each at its boundaries. */
public final class TermsTest {
    private static final int LEAST = Integer.MIN_VALUE;
    private static final int MOST = Integer.MAX_VALUE;

    public static void main(String[] args) {
        Due due = new Due();
        quotients(due);
        sets(due);
        leastNumber(due);
        places(due);
        sorts(due);
        howManyThings(due);
        ofThings(due);
        gone(due);
        howManyPeople(due);
        kinds(due);
        ofPeople(due);
        noEnvy(due);
        looker(due);
        modest(due);
        beggar(due);
        rival(due);
        praiser(due);
        thief(due);
        child(due);
        atTheEnd(due);
        dayByWhatIs(due);
        dayFalls(due);
        dayWalks(due);
        dayCounts(due);
        draws(due);
        spots(due);
        sheets(due);
        due.end();
    }

    private static EnvyRust eightThings() {
        EnvyRust x = new EnvyRust();
        for (int i = 0; i < 8; i++) {
            x.thing(i % 4, i);
        }
        return x;
    }

    private static EnvyRust eightPeople() {
        EnvyRust x = new EnvyRust();
        for (int i = 0; i < 8; i++) {
            x.person(0, 5);
        }
        return x;
    }

    private static void quotients(Due due) {
        due.says(0, "Quotients are cut.");
        int[] halves = {0, 0, 1, 1, 2, 2, 3, 3, 4, 4};
        EnvyRust x = Due.town("modest; thing 0");
        for (int liked = 0; liked <= 9; liked++) {
            x.change(0, 3, liked);
            due.is("half of " + liked, x.envy(0, 0), halves[liked]);
        }
        x.change(0, 0, 4);
        int[][] hundredths = {{99, 6}, {100, 7}, {101, 7}, {199, 7}, {200, 8}, {899, 14}, {900, 15}, {999, 15}};
        for (int[] row : hundredths) {
            x.forge(0, 2, row[0]);
            due.is("9 - 3 and a hundredth of " + row[0], x.envy(0, 0), row[1]);
        }
    }

    private static void sets(Due due) {
        due.says(0, "Sets are told as bits; ");
        EnvyRust x = eightThings();
        x.person(0, 7);
        x.change(0, 2, 0);
        due.is("none", x.now(1), 0);
        x.forge(7, 2, 0);
        due.is("thing 7", x.now(1), 128);
        due.is("thing 7 behind 3 days", x.gone(3), 128);
        due.is("thing 7, where somebody is", x.now(4), 128);
        due.is("thing 7 with itself", x.fallsWith(7), 128);
        x.forge(0, 2, 0);
        due.is("things 0 and 7", x.now(1), 129);
        x.forge(7, 4, 0);
        due.is("whose thing 7 is", x.of(0, 7), 128);
        x.forge(0, 4, 0);
        due.is("whose things 0 and 7 are", x.of(0, 7), 129);
        due.is("all eight", x.fells(), 255);
        due.is("what all eight are worth, two of them gone", x.worth(0, 255), 6);
    }

    private static void leastNumber(Due due) {
        due.says(0, "of several that would do the least number counts, where nothing else is told.");
        EnvyRust x = eightThings();
        for (int i = 0; i < 8; i++) {
            x.person(i % 7, 8);
        }
        for (int i = 0; i < 8; i++) {
            int n = i;
            due.leaves(x, "kindFor, all alike", () -> x.kindFor(n, 3), 0);
            due.leaves(x, "walkFor on no day", () -> x.walkFor(n, 0), 0);
            due.leaves(x, "placeFor on no day", () -> x.placeFor(n, 0), 0);
            due.leaves(x, "ownerFor, all alike", () -> x.ownerFor(n, 3), 0);
        }
        due.leaves(x, "worst, all alike", () -> x.worst(3), 0);
        due.leaves(x, "paint, all alike", () -> x.paint(3, 3), 7);
        due.leaves(x, "keystone, all alike", x::keystone, 0);
        due.leaves(x, "lesser of nothing that both want", () -> x.lesser(0, 6, 255), 0);
        EnvyRust y = Due.town("looker at 1 walks 0 likes 5 0 0 0; looker at 2 walks 0 likes 5 0 0 0", "thing 1; thing 0 at 1; thing 0 at 2");
        due.leaves(y, "the first of two that do", () -> y.worst(2), 0);
        due.leaves(y, "the first of two that do", () -> y.paint(1, 2), 2);
        due.leaves(y, "not the first, but the first of those that do", () -> y.placeFor(1, 2), 0);
        y.change(0, 1, 0);
        due.leaves(y, "not the first, but the first of those that do", () -> y.placeFor(1, 2), 1);
    }

    private static void places(Due due) {
        due.says(0, "PLACES 0 to 15, round (15 is ahead of 0).");
        EnvyRust x = new EnvyRust();
        due.is("thing(0, 0)", x.thing(0, 0), 0);
        due.is("thing(0, 15)", x.thing(0, 15), 1);
        due.is("person(0, 0)", x.person(0, 0), 0);
        due.is("person(0, 15)", x.person(0, 15), 1);
        due.outside(x, "thing at place", 0, 15, v -> x.thing(0, v));
        due.outside(x, "person at place", 0, 15, v -> x.person(0, v));
        due.outside(x, "forge at place", 0, 15, v -> x.forge(0, 1, v));
        due.outside(x, "change at place", 0, 15, v -> x.change(0, 1, v));
        due.is("forge to 15", x.forge(0, 1, 15), 0);
        due.is("forge to 0", x.forge(0, 1, 0), 15);
        due.is("change to 15", x.change(0, 1, 15), 0);
        due.is("change to 0", x.change(0, 1, 0), 15);
        int[][] walks = {{14, 1, 15}, {15, 1, 0}, {15, 0, 15}, {0, 15, 15}, {1, 15, 0}, {15, 15, 14}, {8, 7, 15}, {8, 8, 0}, {8, 9, 1}, {0, 1, 1}};
        for (int[] walk : walks) {
            x.change(0, 1, walk[0]);
            x.change(0, 2, walk[1]);
            x.go(1);
            due.is("from " + walk[0] + " by " + walk[1], x.of(0, 1), walk[2]);
        }
    }

    private static void sorts(Due due) {
        due.says(0, "SORTS 0 to 3.");
        EnvyRust x = Due.town("looker likes 1 2 3 4");
        for (int sort = 0; sort <= 3; sort++) {
            due.is("thing of sort " + sort, x.thing(sort, 0), sort);
            due.is("thingOf(" + sort + ", 0)", x.thingOf(sort, 0), sort);
            due.is("how it is liked", x.envy(0, sort), 1 + sort);
        }
        due.outside(x, "thing of sort", 0, 3, v -> x.thing(v, 0));
        due.outside(x, "forge to sort", 0, 3, v -> x.forge(1, 0, v));
        due.is("forge(1, 0, 3)", x.forge(1, 0, 3), 1);
        due.is("forge(1, 0, 0)", x.forge(1, 0, 0), 3);
    }

    private static void howManyThings(Due due) {
        due.says(0, "THINGS 0, 1, .. (at most 8): each of a SORT, AT a PLACE, ");
        EnvyRust x = new EnvyRust();
        for (int i = 0; i < 8; i++) {
            int next = i;
            due.refuses(x, Due.BEYOND, "thing " + i + " isn't there yet", () -> x.thingOf(next, 0));
            due.is("thing " + i, x.thing(i % 4, 15 - i), i);
            due.is("its sort", x.thingOf(i, 0), i % 4);
            due.is("its place", x.thingOf(i, 1), 15 - i);
            due.is("how many", x.count(1), i + 1);
        }
        due.refuses(x, Due.FULL, "a 9th", () -> x.thing(0, 0));
        due.refuses(x, Due.BEYOND, "thing 8", () -> x.thingOf(8, 0));
        due.refuses(x, Due.BEYOND, "thing -1", () -> x.thingOf(-1, 0));
        due.is("a 9th by a text", Due.read(x, "thing 0"), -1);
        due.is("how many", x.count(1), 8);
        due.is("the 8th is worn like the others", x.now(2), 800);
    }

    private static void ofThings(Due due) {
        EnvyRust x = Due.town("looker; thief at 9; thing 0; thing 0");
        due.says(0, "with THICK (0 to 999; 100 at first), ");
        due.is("at first", x.thingOf(0, 2), 100);
        due.is("to 0", x.forge(0, 2, 0), 100);
        due.is("to 999", x.forge(0, 2, 999), 0);
        due.outside(x, "thick", 0, 999, v -> x.forge(0, 2, v));
        due.is("to 1", x.forge(0, 2, 1), 999);
        due.is("to 998", x.forge(0, 2, 998), 1);
        due.says(0, "PAINT (0 to 9; 0 at first), ");
        due.is("at first", x.thingOf(0, 3), 0);
        due.is("to 9", x.forge(0, 3, 9), 0);
        due.is("to 0", x.forge(0, 3, 0), 9);
        due.outside(x, "paint", 0, 9, v -> x.forge(0, 3, v));
        due.is("to 8", x.forge(0, 3, 8), 0);
        due.is("to 1", x.forge(0, 3, 1), 8);
        due.says(0, "an OWNER (one of PEOPLE, or -1: nobody, at first), ");
        due.is("at first", x.thingOf(0, 4), -1);
        due.is("to 1", x.forge(0, 4, 1), -1);
        due.is("to 0", x.forge(0, 4, 0), 1);
        due.is("to nobody", x.forge(0, 4, -1), 0);
        due.outside(x, "owner", -1, 1, v -> x.forge(0, 4, v));
        x.person(0, 0);
        due.is("to one who is there now", x.forge(0, 4, 2), -1);
        due.says(0, "and HANGS on a THING (or on none: -1, at first).");
        due.is("at first", x.thingOf(0, 5), -1);
        due.is("on 1", x.forge(0, 5, 1), -1);
        due.is("on none", x.forge(0, 5, -1), 1);
        due.outside(x, "hangs", -1, 1, v -> x.forge(0, 5, v));
        x.thing(0, 0);
        due.is("on one that is there now", x.forge(0, 5, 2), -1);
        due.is("on the first", x.forge(1, 5, 0), -1);
    }

    private static void gone(Due due) {
        due.says(0, "It is GONE, if THICK is 0.");
        for (int thick = 0; thick <= 2; thick++) {
            EnvyRust x = Due.town("looker walks 0; thing 0; thing 1 thick 50 on 0");
            x.change(0, 3, 0);
            x.forge(0, 2, thick);
            int gone = thick == 0 ? 1 : 0;
            String with = " with " + thick;
            due.is("now(1)" + with, x.now(1), gone);
            due.is("count(3)" + with, x.count(3), gone);
            due.is("gone(0)" + with, x.gone(0), gone);
            due.is("gone(1)" + with, x.gone(1), gone * 3);
            due.is("lasts(0)" + with, x.lasts(0), gone == 1 ? 0 : Due.NONE);
            due.is("needs(0, 1)" + with, x.needs(0, 1), gone == 1 ? Due.NONE : 0);
            x.change(0, 3, 5);
            due.is("envy" + with, x.envy(0, 0), gone == 1 ? 0 : 5);
            due.is("worth" + with, x.worth(0, 1), gone == 1 ? 0 : 5);
            x.change(0, 3, 1);
            due.is("go(1)" + with, x.go(1), thick == 2 ? 0 : 2);
        }
    }

    private static void howManyPeople(Due due) {
        due.says(0, "PEOPLE 0, 1, .. (at most 8), ");
        EnvyRust x = new EnvyRust();
        for (int i = 0; i < 8; i++) {
            int next = i;
            due.refuses(x, Due.BEYOND, "number " + i + " isn't there yet", () -> x.of(next, 0));
            due.is("person " + i, x.person(0, 2), i);
            due.is("how many", x.count(2), i + 1);
        }
        due.refuses(x, Due.FULL, "a 9th", () -> x.person(0, 0));
        due.refuses(x, Due.BEYOND, "number 8", () -> x.of(8, 0));
        due.refuses(x, Due.BEYOND, "number -1", () -> x.of(-1, 0));
        due.is("a 9th by a text", Due.read(x, "looker"), -1);
        due.is("how many", x.count(2), 8);
        x.thing(0, 2);
        due.is("all eight wear", x.thingOf(0, 6), 8);
        x.change(7, 3, 9);
        due.is("the 8th by how much it likes", x.thingOf(0, 6), 16);
    }

    private static void kinds(Due due) {
        due.says(0, "of KINDS: 0 LOOKER; 1 MODEST, 2 RIVAL, 5 CHILD under LOOKER; 3 PRAISER under RIVAL; 4 THIEF under PRAISER; 6 BEGGAR under MODEST; ");
        String[] under = {"0", "01", "02", "023", "0234", "05", "016"};
        EnvyRust x = new EnvyRust();
        for (int kind = 0; kind <= 6; kind++) {
            due.is("person of kind " + kind, x.person(kind, 0), kind);
            x.hold(kind, kind);
            for (int asked = 0; asked <= 6; asked++) {
                boolean is = under[kind].indexOf('0' + asked) >= 0;
                due.is("as(" + kind + ", " + asked + ")", x.as(kind, asked), is ? kind : Due.KIND);
            }
        }
        due.outside(x, "person of kind", 0, 6, v -> x.person(v, 0));
        due.outside(x, "change of kind", 0, 6, v -> x.change(0, 0, v));
        due.outside(x, "as one of kind", 0, 6, v -> x.as(0, v));
        // A rival envies what is a rival's more: so one sees who is one, or under one.
        x.person(2, 0);
        x.thing(0, 0);
        int[] more = {0, 0, 2, 2, 2, 0, 0};
        for (int kind = 0; kind <= 6; kind++) {
            x.forge(0, 4, kind);
            due.is("what a rival envies one of kind " + kind, x.envy(7, 0), 1 + more[kind]);
        }
    }

    private static void ofPeople(Due due) {
        EnvyRust x = Due.town("looker; thing 0; thing 1; thing 2; thing 3");
        due.says(0, "each AT a PLACE, with a WALK (how many PLACES on a DAY, 0 to 15; 1 at first), ");
        due.is("at first", x.of(0, 2), 1);
        x.go(1);
        due.is("at first", x.of(0, 1), 1);
        due.is("to 0", x.change(0, 2, 0), 1);
        x.go(1);
        due.is("by 0", x.of(0, 1), 1);
        due.is("to 15", x.change(0, 2, 15), 0);
        x.go(1);
        due.is("by 15", x.of(0, 1), 0);
        due.outside(x, "walk", 0, 15, v -> x.change(0, 2, v));
        due.is("to 14", x.change(0, 2, 14), 15);
        x.go(1);
        due.is("by 14", x.of(0, 1), 14);
        due.says(0, "and LIKES each SORT (0 to 9; 1 at first).");
        for (int sort = 0; sort <= 3; sort++) {
            int what = 3 + sort;
            int thing = sort;
            due.is("at first", x.of(0, what), 1);
            due.is("at first", x.envy(0, thing), 1);
            due.is("to 9", x.change(0, what, 9), 1);
            due.is("by 9", x.envy(0, thing), 9);
            due.outside(x, "likes sort " + sort, 0, 9, v -> x.change(0, what, v));
            due.is("to 0", x.change(0, what, 0), 9);
            due.is("by 0", x.envy(0, thing), 0);
            due.is("to 8", x.change(0, what, 8), 0);
            due.is("by 8", x.envy(0, thing), 8);
        }
    }

    private static void noEnvy(Due due) {
        due.says(0, "ENVY of one for a THING (0, if it is its OWNER, or the THING is GONE): ");
        EnvyRust x = Due.town("looker likes 5 0 0 0; thief likes 9 0 0 0; child likes 5 0 0 0; thing 0 thick 200");
        int[] envies = {5, 8, 10};
        for (int one = 0; one < 3; one++) {
            due.is("of " + one + " for nobody's", x.envy(one, 0), envies[one]);
            x.forge(0, 4, one);
            due.is("of " + one + " for its own", x.envy(one, 0), 0);
            x.forge(0, 4, (one + 2) % 3);
            due.is("of " + one + " for another one's", x.envy(one, 0), envies[one]);
            x.forge(0, 2, 1);
            due.is("of " + one + " for what is thin", x.envy(one, 0), one == 1 ? 6 : envies[one]);
            x.forge(0, 2, 0);
            due.is("of " + one + " for what is gone", x.envy(one, 0), 0);
            x.forge(0, 2, 200);
            x.forge(0, 4, -1);
        }
    }

    /** Envy of one of a kind for nobody's thing of 100, liked by each of 0 to 9 and painted. */
    private static void likings(Due due, int kind, int coat, int... want) {
        EnvyRust x = Due.town("looker; looker; thing 0");
        x.change(0, 0, kind);
        x.forge(0, 3, coat);
        x.forge(0, 4, kind == 6 ? 1 : -1);
        for (int liked = 0; liked <= 9; liked++) {
            x.change(0, 3, liked);
            due.is("liked by " + liked + ", painted " + coat, x.envy(0, 0), want[liked]);
        }
    }

    private static void looker(Due due) {
        due.says(0, "LOOKER: how much it LIKES the SORT, less PAINT.");
        likings(due, 0, 0, 0, 1, 2, 3, 4, 5, 6, 7, 8, 9);
        likings(due, 0, 1, 0, 0, 1, 2, 3, 4, 5, 6, 7, 8);
        likings(due, 0, 5, 0, 0, 0, 0, 0, 0, 1, 2, 3, 4);
        likings(due, 0, 8, 0, 0, 0, 0, 0, 0, 0, 0, 0, 1);
        likings(due, 0, 9, 0, 0, 0, 0, 0, 0, 0, 0, 0, 0);
    }

    private static void modest(Due due) {
        due.says(0, "MODEST: half (cut) that of a LOOKER.");
        likings(due, 1, 0, 0, 0, 1, 1, 2, 2, 3, 3, 4, 4);
        likings(due, 1, 1, 0, 0, 0, 1, 1, 2, 2, 3, 3, 4);
        likings(due, 1, 8, 0, 0, 0, 0, 0, 0, 0, 0, 0, 0);
        likings(due, 1, 7, 0, 0, 0, 0, 0, 0, 0, 0, 0, 1);
    }

    private static void beggar(Due due) {
        due.says(0, "BEGGAR: as MODEST, but 0, if nobody is OWNER.");
        likings(due, 6, 0, 0, 0, 1, 1, 2, 2, 3, 3, 4, 4);
        likings(due, 6, 6, 0, 0, 0, 0, 0, 0, 0, 0, 1, 1);
        EnvyRust x = Due.town("beggar likes 9 9 9 9; looker; thing 0");
        due.is("nobody's", x.envy(0, 0), 0);
        x.forge(0, 4, 1);
        due.is("somebody's", x.envy(0, 0), 4);
        x.forge(0, 4, 0);
        due.is("its own", x.envy(0, 0), 0);
        EnvyRust y = Due.town("looker; beggar likes 9 9 9 9; thing 0 of 0");
        due.is("that of number 0", y.envy(1, 0), 4);
    }

    private static void rival(Due due) {
        due.says(0, "RIVAL: as a LOOKER, and 2, if its OWNER is a RIVAL (or of a KIND under it).");
        likings(due, 2, 0, 0, 1, 2, 3, 4, 5, 6, 7, 8, 9);
        likings(due, 2, 8, 0, 0, 0, 0, 0, 0, 0, 0, 0, 1);
        EnvyRust x = Due.town("looker; rival likes 4 0 0 0; thing 0 of 0");
        int[] want = {4, 4, 6, 6, 6, 4, 4};
        for (int kind = 0; kind <= 6; kind++) {
            x.change(0, 0, kind);
            due.is("that of one of kind " + kind, x.envy(1, 0), want[kind]);
        }
        x.change(0, 0, 4);
        int[] coats = {6, 5, 4, 3, 2, 1, 0, 0, 0, 0};
        for (int coat = 0; coat <= 9; coat++) {
            x.forge(0, 3, coat);
            due.is("a thief's, liked by 4, painted " + coat, x.envy(1, 0), coats[coat]);
        }
        x.forge(0, 3, 0);
        x.forge(0, 4, 1);
        due.is("its own", x.envy(1, 0), 0);
    }

    private static void praiser(Due due) {
        due.says(0, "PRAISER: as a RIVAL, less 3.");
        likings(due, 3, 0, 0, 0, 0, 0, 1, 2, 3, 4, 5, 6);
        likings(due, 3, 5, 0, 0, 0, 0, 0, 0, 0, 0, 0, 1);
        likings(due, 3, 6, 0, 0, 0, 0, 0, 0, 0, 0, 0, 0);
        EnvyRust x = Due.town("rival; praiser; thing 0 of 0");
        int[] ofRival = {0, 0, 1, 2, 3, 4, 5, 6, 7, 8};
        for (int liked = 0; liked <= 9; liked++) {
            x.change(1, 3, liked);
            due.is("a rival's, liked by " + liked, x.envy(1, 0), ofRival[liked]);
        }
    }

    private static void thief(Due due) {
        due.says(0, "THIEF: as a PRAISER, and a hundredth (cut) of THICK.");
        likings(due, 4, 0, 0, 0, 0, 1, 2, 3, 4, 5, 6, 7);
        likings(due, 4, 7, 0, 0, 0, 0, 0, 0, 0, 0, 0, 0);
        likings(due, 4, 6, 0, 0, 0, 0, 0, 0, 0, 0, 0, 1);
        EnvyRust x = Due.town("thief likes 3 0 0 0; praiser; thing 0");
        int[][] thick = {{1, 0}, {99, 0}, {100, 1}, {101, 1}, {199, 1}, {200, 2}, {201, 2}, {998, 9}, {999, 9}};
        for (int[] row : thick) {
            x.forge(0, 2, row[0]);
            x.forge(0, 4, -1);
            due.is(row[0] + " thick", x.envy(0, 0), row[1]);
            x.forge(0, 4, 1);
            due.is(row[0] + " thick, a praiser's", x.envy(0, 0), row[1] + 2);
        }
    }

    private static void child(Due due) {
        due.says(0, "CHILD: as a LOOKER, twice.");
        likings(due, 5, 0, 0, 2, 4, 6, 8, 10, 12, 14, 16, 18);
        likings(due, 5, 4, 0, 0, 0, 0, 0, 2, 4, 6, 8, 10);
        likings(due, 5, 9, 0, 0, 0, 0, 0, 0, 0, 0, 0, 0);
    }

    private static void atTheEnd(Due due) {
        due.says(0, "(Below 0 it is 0, at the end.)");
        EnvyRust x = Due.town("thief likes 2 0 0 0; rival; thing 0 thick 999 paint 9");
        due.is("2 - 9 - 3 + 9", x.envy(0, 0), 0);
        x.change(0, 3, 3);
        due.is("3 - 9 - 3 + 9", x.envy(0, 0), 0);
        x.change(0, 3, 4);
        due.is("4 - 9 - 3 + 9", x.envy(0, 0), 1);
        x.forge(0, 4, 1);
        due.is("4 - 9 + 2 - 3 + 9", x.envy(0, 0), 3);
        x.change(0, 3, 1);
        due.is("1 - 9 + 2 - 3 + 9", x.envy(0, 0), 0);
        x.change(0, 3, 2);
        due.is("2 - 9 + 2 - 3 + 9", x.envy(0, 0), 1);
        x.change(0, 0, 2);
        x.forge(0, 3, 3);
        due.is("2 - 3 + 2", x.envy(0, 0), 1);
        x.forge(0, 3, 4);
        due.is("2 - 4 + 2", x.envy(0, 0), 0);
        x.forge(0, 3, 5);
        due.is("2 - 5 + 2", x.envy(0, 0), 0);
        x.change(1, 1, 0);
        x.change(0, 0, 0);
        x.change(1, 0, 5);
        x.change(1, 3, 7);
        x.forge(0, 4, -1);
        due.is("what is below 0 takes nothing off what another one wears", x.thingOf(0, 6), 4);
    }

    private static void dayByWhatIs(Due due) {
        due.says(0, "A DAY goes by: by what all is then, THICK of each THING is less by ENVY of all PEOPLE that are AT its PLACE (0 at least); ");
        int[][] thick = {{13, 0}, {14, 0}, {15, 1}, {16, 2}, {999, 985}};
        for (int[] row : thick) {
            EnvyRust x = Due.town("looker at 4 likes 5 0 0 0; looker at 4 likes 9 0 0 0; looker at 3 likes 9 0 0 0; looker at 5 likes 9 0 0 0", "thing 0 at 4");
            x.forge(0, 2, row[0]);
            due.is("go(1)", x.go(1), row[1] == 0 ? 1 : 0);
            due.is(row[0] + " less by 14", x.thingOf(0, 2), row[1]);
        }
        EnvyRust y = Due.town("thief walks 0 likes 3 0 0 0; thief walks 0 likes 3 0 0 0; thing 0 thick 200; thing 0 at 1 thick 200");
        y.go(1);
        due.is("both by what was there at first", y.thingOf(0, 2), 196);
        due.is("nobody is there yet", y.thingOf(1, 2), 200);
        y.go(1);
        due.is("both by what was there then", y.thingOf(0, 2), 194);
        EnvyRust z = Due.town("looker likes 5 0 0 0 ; thing 0 at 1");
        z.go(1);
        due.is("who comes on a day wears on the next", z.thingOf(0, 2), 100);
        z.go(1);
        due.is("who comes on a day wears on the next", z.thingOf(0, 2), 95);
    }

    private static void dayFalls(Due due) {
        due.says(0, "then, again and again, a THING that HANGS on one that is GONE is GONE, too (its THICK 0); ");
        for (int turn = 0; turn < 2; turn++) {
            for (int left = 0; left <= 1; left++) {
                EnvyRust x = eightThings();
                for (int i = 0; i < 7; i++) {
                    int upper = turn == 0 ? i : 7 - i;
                    x.forge(turn == 0 ? i + 1 : 6 - i, 5, upper);
                }
                int top = turn == 0 ? 0 : 7;
                x.forge(top, 2, 5 + left);
                x.forge(top, 1, 9);
                x.person(0, 9);
                x.change(0, 2, 0);
                for (int sort = 0; sort <= 3; sort++) {
                    x.change(0, 3 + sort, 5);
                }
                due.is("nothing falls ahead of the day", x.count(3), 0);
                due.is("what is left of the top is " + left, x.go(1), left == 0 ? 8 : 0);
                due.is("all together", x.now(2), left == 0 ? 0 : 701);
                due.is("behind one more day", x.go(1), 8);
            }
        }
        EnvyRust y = Due.town("thing 0 thick 0; thing 0 thick 7 on 0; thing 0 thick 9; thing 0 thick 9 on 1");
        due.is("also on what was gone before", y.go(1), 3);
        due.is("what hangs on none stays", y.thingOf(2, 2), 9);
    }

    private static void dayWalks(Due due) {
        due.says(0, "then PEOPLE go on by their WALKS.");
        EnvyRust x = eightPeople();
        for (int i = 0; i < 8; i++) {
            x.change(i, 2, 2 * i + 1);
        }
        x.go(1);
        for (int i = 0; i < 8; i++) {
            due.is("number " + i + " behind a day", x.of(i, 1), (5 + 2 * i + 1) % 16);
        }
        x.go(16);
        for (int i = 0; i < 8; i++) {
            due.is("number " + i + " is there again 16 days on", x.of(i, 1), (5 + 2 * i + 1) % 16);
        }
    }

    private static void dayCounts(Due due) {
        due.says(0, "DAY is one more (99999 at most).");
        EnvyRust x = new EnvyRust();
        due.is("at first", x.now(0), 0);
        x.go(1);
        due.is("behind a day", x.now(0), 1);
        x.go(60);
        due.is("behind 60 more", x.now(0), 61);
        x.strolls(20);
        due.is("behind 20 more", x.now(0), 81);
        for (int i = 0; i < 1665; i++) {
            x.go(60);
        }
        x.go(17);
        due.is("two ahead of the last", x.now(0), 99998);
        due.refuses(x, Due.STATE, "go(2)", () -> x.go(2));
        due.refuses(x, Due.STATE, "strolls(2)", () -> x.strolls(2));
        due.is("go(1)", x.go(1), 0);
        due.is("the last", x.now(0), 99999);
        due.refuses(x, Due.STATE, "go(1)", () -> x.go(1));
        due.refuses(x, Due.STATE, "strolls(1)", () -> x.strolls(1));
    }

    private static void draws(Due due) {
        due.says(0, "DRAWS: z is told (1 at first); each makes it z * 1103515245 + 12345 (an int), and gives z >>> 8.");
        int[] told = {1103527590, -1770082073, 662824084, -999580867, -112468174, -1778682749};
        int[] places = {14, 0, 4, 11, 15, 4};
        EnvyRust x = Due.town("looker walks 0");
        due.is("at first", x.count(6), 1);
        for (int i = 0; i < told.length; i++) {
            x.strolls(1);
            due.is("z behind draw " + (i + 1), x.count(6), told[i]);
            due.is("the place by draw " + (i + 1), x.of(0, 1), places[i]);
        }
        EnvyRust y = Due.town("looker walks 0; looker walks 0; looker walks 0; looker walks 0; looker walks 0; looker walks 0");
        y.strolls(1);
        for (int i = 0; i < told.length; i++) {
            due.is("the place of number " + i, y.of(i, 1), places[i]);
        }
        due.is("z behind six draws", y.count(6), told[5]);
        int[][] wraps = {{0, 12345, 0}, {-1, -1103502900, 1}, {MOST, 1043980748, 1}, {LEAST, -2147471303, 0}, {2, -2087924461, 13}};
        for (int[] row : wraps) {
            x.seed(row[0]);
            due.is("z is told", x.count(6), row[0]);
            x.strolls(1);
            due.is("z behind " + row[0], x.count(6), row[1]);
            due.is("the place behind " + row[0], x.of(0, 1), row[2]);
        }
    }

    private static void spots(Due due) {
        due.says(0, "SPOTS 0 to 9 hold one of PEOPLE or nothing (at first).");
        EnvyRust x = eightPeople();
        due.is("at first", x.count(7), 0);
        for (int spot = 0; spot <= 9; spot++) {
            int s = spot;
            due.refuses(x, Due.MISSING, "spot " + spot + " at first", () -> x.as(s, 0));
            due.is("hold(" + spot + ")", x.hold(spot, spot % 8), 1);
            due.is("as(" + spot + ")", x.as(spot, 0), spot % 8);
        }
        due.is("all ten", x.count(7), 10);
        due.outside(x, "hold in spot", 0, 9, v -> x.hold(v, 0));
        due.outside(x, "as in spot", 0, 9, v -> x.as(v, 0));
        due.outside(x, "hold one", -1, 7, v -> x.hold(0, v));
        due.is("hold(9, -1)", x.hold(9, -1), 1);
        due.refuses(x, Due.MISSING, "nothing again", () -> x.as(9, 0));
        due.is("one fewer", x.count(7), 9);
    }

    /** What number i of a sheet is, if it is 0 to 999: by way of number 0, which is lost; else -1. */
    private static int number(EnvyRust x, int s, int i) {
        x.copy(s, i, s, 0, 1);
        x.forge(0, 2, 0);
        return x.load(s) == 0 ? -1 : x.thingOf(0, 2);
    }

    private static void sheets(Due due) {
        due.says(0, "SHEETS 0 to 3: rows of at most 40 numbers of 8, 16 or 32 bits (told with their sign: of 8 bits 255 is -1), or MISSING (at first).");
        EnvyRust x = Due.town("looker at 5; thing 0");
        for (int sheet = 0; sheet <= 3; sheet++) {
            int s = sheet;
            due.refuses(x, Due.MISSING, "load(" + s + ") at first", () -> x.load(s));
            for (int bits = 8; bits <= 32; bits *= 2) {
                due.is("sheet of 40", x.sheet(s, bits, 40), 40);
                due.is("the last number", x.write(s, 39, 77), 1);
                due.is("the last but one", x.write(s, 38, 76), 1);
                due.refuses(x, Due.BEYOND, "a 41st", () -> x.write(s, 40, 78));
                due.is("number 39", number(x, s, 39), 77);
                due.is("number 38", number(x, s, 38), 76);
                due.is("number 37", number(x, s, 37), 0);
            }
        }
        due.outside(x, "sheet", 0, 3, v -> x.sheet(v, 8, 1));
        due.outside(x, "load", 0, 3, v -> x.load(v));
        due.outside(x, "judge", 0, 3, v -> x.judge(v));
        due.outside(x, "write", 0, 3, v -> x.write(v, 0, 0));
        due.outside(x, "copy from", 0, 3, v -> x.copy(v, 0, 0, 0, 0));
        due.outside(x, "copy to", 0, 3, v -> x.copy(0, 0, v, 0, 0));
        due.outside(x, "fits", 0, 3, v -> x.fits(v, 0, 0));
        due.outside(x, "likes", 0, 3, v -> x.likes(v, 0, 0));
        signs(due, x);
    }

    private static final int ANY = -1;
    private static final int OTHER = -2;

    /** Bits, what is written, and what it is told as: ANY is -1, OTHER is below that, or above 999. */
    private static final int[][] SIGNS = {
        {8, 0, 0}, {8, 126, 126}, {8, 127, 127}, {8, 128, OTHER}, {8, 129, OTHER}, {8, 254, OTHER}, {8, 255, ANY}, {8, 256, 0}, {8, 257, 1},
        {8, -1, ANY}, {8, -2, OTHER}, {8, -128, OTHER}, {8, -129, 127}, {8, -255, 1}, {8, -256, 0}, {8, -257, ANY}, {8, MOST, ANY}, {8, LEAST, 0},
        {16, 255, 255}, {16, 999, 999}, {16, 1000, OTHER}, {16, 32767, OTHER}, {16, 32768, OTHER}, {16, 65534, OTHER}, {16, 65535, ANY},
        {16, 65536, 0}, {16, 65537, 1}, {16, -1, ANY}, {16, -65535, 1}, {16, -65536, 0}, {16, MOST, ANY}, {16, LEAST, 0}, {16, 33000, OTHER},
        {32, 255, 255}, {32, 65535, OTHER}, {32, 65536, OTHER}, {32, -1, ANY}, {32, -65536, OTHER}, {32, MOST, OTHER}, {32, LEAST, OTHER}, {32, 999, 999}};

    private static void signs(Due due, EnvyRust x) {
        for (int[] row : SIGNS) {
            x.sheet(2, row[0], 1);
            x.write(2, 0, row[1]);
            x.forge(0, 2, 0);
            String what = row[1] + " of " + row[0] + " bits";
            due.is(what + ", loaded", x.load(2), row[2] >= 0 ? 1 : 0);
            due.is(what + ", as thick", x.thingOf(0, 2), Math.max(0, row[2]));
            x.forge(0, 2, 500);
            due.is(what + ", any thick fits", x.fits(2, 0, 0), row[2] == ANY ? 10 : 0);
        }
    }
}
