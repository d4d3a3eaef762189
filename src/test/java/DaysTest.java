/** Promises 9 to 22: days that go by, and what will be. */
public final class DaysTest {
    private static final int MOST = Integer.MAX_VALUE;

    public static void main(String[] args) {
        Due due = new Due();
        go(due);
        goTooFar(due);
        now(due);
        ahead(due);
        lasts(due);
        goneAndWorn(due);
        sees(due);
        kindFor(due);
        walkFor(due);
        placeFor(due);
        ownerFor(due);
        worst(due);
        paint(due);
        needs(due);
        due.end();
    }

    private static void go(Due due) {
        due.promise(9, "go");
        EnvyRust x = Due.town("looker at 14 likes 7 0 0 0; rival at 15 walks 15 likes 3 0 0 0",
            "thing 0 at 15 thick 20; thing 0 at 3 on 0");
        due.is("go(1)", x.go(1), 0);
        due.is("worn by who is there", x.thingOf(0, 2), 17);
        due.is("round", x.of(0, 1), 15);
        due.is("round the other way", x.of(1, 1), 14);
        due.is("go(1)", x.go(1), 0);
        due.is("thingOf(0, 2)", x.thingOf(0, 2), 10);
        due.is("15 is ahead of 0", x.of(0, 1), 0);
        due.is("go(2)", x.go(2), 0);
        due.is("now(0)", x.now(0), 4);
        due.is("go(12)", x.go(12), 0);
        due.is("at the place on the last day", x.thingOf(0, 2), 10);
        due.is("go(1)", x.go(1), 0);
        due.is("again by who came round", x.thingOf(0, 2), 7);
        due.is("go(60)", x.go(60), 2);
        due.is("now(0)", x.now(0), 77);
        due.is("what hangs on what is gone is gone", x.thingOf(1, 2), 0);
        due.refuses(x, Due.BEYOND, "go(0)", () -> x.go(0));
        due.refuses(x, Due.BEYOND, "go(-1)", () -> x.go(-1));
        due.refuses(x, Due.BEYOND, "go(61)", () -> x.go(61));
        due.refuses(x, Due.BEYOND, "go(MOST)", () -> x.go(MOST));
        goByWhatIsThen(due);
    }

    private static void goByWhatIsThen(Due due) {
        EnvyRust x = new EnvyRust();
        for (int i = 0; i < 8; i++) {
            x.thing(0, 5);
        }
        for (int i = 0; i < 7; i++) {
            x.forge(i, 5, i + 1);
        }
        x.forge(7, 2, 0);
        due.is("nothing falls ahead of a day", x.now(1), 128);
        due.is("all fall on one day, chain by chain", x.go(1), 8);
        EnvyRust y = Due.town("thief walks 0 likes 3 0 0 0; thief walks 0 likes 3 0 0 0; thing 0 thick 101; thing 1 thick 3 on 0");
        due.is("go(1)", y.go(1), 0);
        due.is("both envy what was there at first", y.thingOf(0, 2), 99);
        EnvyRust z = Due.town("looker likes 9 0 0 0; thing 0 thick 4; thing 1 thick 9 on 0; thing 1 of 0 on 1; thing 1");
        due.is("0 at least, and what hangs falls on the same day", z.go(1), 3);
        due.is("now(2)", z.now(2), 100);
        z.forge(1, 2, 50);
        due.is("what hangs on what was gone falls", z.go(1), 3);
    }

    private static void goTooFar(Due due) {
        EnvyRust x = new EnvyRust();
        for (int i = 0; i < 1666; i++) {
            x.go(60);
        }
        due.is("now(0)", x.now(0), 99960);
        due.refuses(x, Due.STATE, "go(40)", () -> x.go(40));
        due.refuses(x, Due.BEYOND, "go(61)", () -> x.go(61));
        due.is("go(38)", x.go(38), 0);
        due.promise(34, "strolls");
        due.refuses(x, Due.STATE, "strolls(2)", () -> x.strolls(2));
        due.refuses(x, Due.BEYOND, "strolls(21)", () -> x.strolls(21));
        due.is("strolls(1)", x.strolls(1), 0);
        due.is("now(0)", x.now(0), 99999);
        due.refuses(x, Due.STATE, "strolls(1)", () -> x.strolls(1));
        due.promise(9, "go");
        due.refuses(x, Due.STATE, "go(1)", () -> x.go(1));
        EnvyRust y = new EnvyRust();
        for (int i = 0; i < 1666; i++) {
            y.go(60);
        }
        due.is("go(39)", y.go(39), 0);
        due.is("now(0)", y.now(0), 99999);
    }

    private static void now(Due due) {
        due.promise(10, "now");
        EnvyRust x = Due.town("looker at 2 likes 5 0 0 0; child at 9 likes 2 2 0 0",
            "thing 0 at 2 thick 3; thing 0 at 9; thing 1 at 9; thing 0 at 4; thing 0 at 9 thick 0");
        due.leaves(x, "now(0)", () -> x.now(0), 0);
        due.leaves(x, "now(1)", () -> x.now(1), 16);
        due.leaves(x, "now(2)", () -> x.now(2), 303);
        due.leaves(x, "no more than there is of it", () -> x.now(3), 3 + 4 + 4);
        due.leaves(x, "now(4)", () -> x.now(4), 1 + 2 + 4 + 16);
        x.go(3);
        due.is("now(0)", x.now(0), 3);
        due.is("now(1)", x.now(1), 1 + 16);
        due.is("now(2)", x.now(2), 96 + 96 + 95);
        due.is("now(3)", x.now(3), 0);
        due.is("now(4)", x.now(4), 0);
        x.forge(0, 1, 0);
        due.is("nobody is at 0", x.now(4), 0);
        x.change(0, 1, 0);
        due.is("somebody is at 0", x.now(4), 1);
        due.refuses(x, Due.BEYOND, "now(5)", () -> x.now(5));
        due.refuses(x, Due.BEYOND, "now(-1)", () -> x.now(-1));
        due.refuses(x, Due.BEYOND, "now(MOST)", () -> x.now(MOST));
        nowWorn(due);
    }

    private static void nowWorn(Due due) {
        EnvyRust x = Due.town("looker walks 0 likes 9 4 0 0; looker walks 0 likes 3 4 0 0",
            "thing 0 thick 30; thing 1 thick 11; thing 1 at 3 thick 50 on 0");
        int[] worn = {12 + 8, 12 + 3, 6};
        for (int day = 0; day < worn.length; day++) {
            int before = x.now(2);
            due.leaves(x, "now(3) on day " + day, () -> x.now(3), worn[day]);
            x.go(1);
            int fell = day == 2 ? 50 : 0;
            due.is("a day wears so much", before - x.now(2), worn[day] + fell);
        }
        due.leaves(x, "nothing is left to wear", () -> x.now(3), 0);
    }

    /** One that stays and wears thing 0 by 3 a day; thing 1 hangs on it; thing 2 nobody wears. */
    private static EnvyRust threeADay() {
        return Due.town("looker at 1 walks 0 likes 3 0 0 0; thing 0 at 1 thick 150; thing 1 at 1 thick 30 on 0; thing 2 at 2 thick 7");
    }

    private static void ahead(Due due) {
        due.promise(11, "ahead");
        EnvyRust x = threeADay();
        due.leaves(x, "ahead(0, 0)", () -> x.ahead(0, 0), 150);
        due.leaves(x, "ahead(0, 1)", () -> x.ahead(0, 1), 147);
        due.leaves(x, "ahead(0, 49)", () -> x.ahead(0, 49), 3);
        due.leaves(x, "ahead(1, 49)", () -> x.ahead(1, 49), 30);
        due.leaves(x, "ahead(1, 50)", () -> x.ahead(1, 50), 0);
        due.leaves(x, "ahead(0, 100)", () -> x.ahead(0, 100), 0);
        due.leaves(x, "ahead(2, 100)", () -> x.ahead(2, 100), 7);
        due.refuses(x, Due.BEYOND, "ahead(0, 101)", () -> x.ahead(0, 101));
        due.refuses(x, Due.BEYOND, "ahead(0, -1)", () -> x.ahead(0, -1));
        due.refuses(x, Due.BEYOND, "ahead(3, 0)", () -> x.ahead(3, 0));
        due.refuses(x, Due.BEYOND, "ahead(-1, 0)", () -> x.ahead(-1, 0));
    }

    private static void lasts(Due due) {
        due.promise(12, "lasts");
        EnvyRust x = threeADay();
        due.leaves(x, "lasts(0)", () -> x.lasts(0), 50);
        due.leaves(x, "lasts(1)", () -> x.lasts(1), 50);
        due.refuses(x, Due.NONE, "lasts(2)", () -> x.lasts(2));
        x.forge(0, 2, 300);
        due.leaves(x, "lasts(0) of 300", () -> x.lasts(0), 100);
        x.forge(0, 2, 301);
        due.refuses(x, Due.NONE, "lasts(0) of 301", () -> x.lasts(0));
        x.forge(0, 2, 0);
        due.leaves(x, "lasts(0) of 0", () -> x.lasts(0), 0);
        due.leaves(x, "lasts(1) on what is gone", () -> x.lasts(1), 1);
        due.refuses(x, Due.BEYOND, "lasts(3)", () -> x.lasts(3));
        due.refuses(x, Due.BEYOND, "lasts(-1)", () -> x.lasts(-1));
    }

    private static void goneAndWorn(Due due) {
        EnvyRust x = threeADay();
        due.promise(13, "gone");
        due.leaves(x, "gone(0)", () -> x.gone(0), 0);
        due.leaves(x, "gone(49)", () -> x.gone(49), 0);
        due.leaves(x, "gone(50)", () -> x.gone(50), 3);
        due.leaves(x, "gone(100)", () -> x.gone(100), 3);
        due.refuses(x, Due.BEYOND, "gone(101)", () -> x.gone(101));
        due.refuses(x, Due.BEYOND, "gone(-1)", () -> x.gone(-1));
        due.promise(14, "worn");
        due.leaves(x, "worn(0)", () -> x.worn(0), 0);
        due.leaves(x, "worn(10)", () -> x.worn(10), 30);
        due.leaves(x, "what falls counts", () -> x.worn(50), 180);
        due.leaves(x, "worn(100)", () -> x.worn(100), 180);
        due.refuses(x, Due.BEYOND, "worn(101)", () -> x.worn(101));
        due.refuses(x, Due.BEYOND, "worn(-1)", () -> x.worn(-1));
        x.forge(2, 2, 0);
        due.promise(13, "gone");
        due.leaves(x, "gone(0) with one gone", () -> x.gone(0), 4);
    }

    private static void sees(Due due) {
        due.promise(15, "sees");
        EnvyRust x = Due.town("looker at 3; looker at 3 walks 15; looker at 3 walks 2; looker at 3 walks 0", "thing 0 at 3; thing 0 at 2 thick 0; thing 0 at 13");
        int[][] want = {{0, 15, 10}, {0, 1, 6}, {0, Due.NONE, 5}, {0, Due.NONE, Due.NONE}};
        for (int person = 0; person < 4; person++) {
            for (int thing = 0; thing < 3; thing++) {
                int p = person;
                int t = thing;
                String call = "sees(" + p + ", " + t + ")";
                if (want[p][t] == Due.NONE) {
                    due.refuses(x, Due.NONE, call, () -> x.sees(p, t));
                } else {
                    due.leaves(x, call, () -> x.sees(p, t), want[p][t]);
                }
            }
        }
        due.refuses(x, Due.BEYOND, "sees(4, 0)", () -> x.sees(4, 0));
        due.refuses(x, Due.BEYOND, "sees(-1, 0)", () -> x.sees(-1, 0));
        due.refuses(x, Due.BEYOND, "sees(0, 3)", () -> x.sees(0, 3));
        due.refuses(x, Due.BEYOND, "sees(0, -1)", () -> x.sees(0, -1));
    }

    private static void kindFor(Due due) {
        due.promise(16, "kindFor");
        EnvyRust x = Due.town("looker walks 0 likes 5 0 0 0; thing 0 thick 99");
        due.leaves(x, "a beggar envies nobody", () -> x.kindFor(0, 1), 6);
        x.person(0, 9);
        x.forge(0, 4, 1);
        due.leaves(x, "modest, praiser, thief and beggar alike", () -> x.kindFor(0, 1), 1);
        x.change(0, 3, 4);
        due.leaves(x, "a praiser by 1", () -> x.kindFor(0, 1), 3);
        x.forge(0, 2, 200);
        due.leaves(x, "a praiser by 1, a thief by 3", () -> x.kindFor(0, 60), 3);
        due.leaves(x, "none has worn yet", () -> x.kindFor(0, 0), 0);
        EnvyRust y = Due.town("rival at 3; rival walks 0 likes 3 0 0 0; thing 0 of 0");
        due.leaves(y, "as an owner that rivals don't envy", () -> y.kindFor(0, 3), 0);
        y.change(0, 0, 0);
        due.leaves(y, "a beggar has nothing to envy there", () -> y.kindFor(1, 3), 3);
        EnvyRust w = Due.town("looker walks 0 likes 9 0 0 0; thing 0 thick 6; thing 1 thick 900 on 0");
        due.leaves(w, "what falls counts", () -> w.kindFor(0, 1), 6);
        w.person(0, 9);
        w.forge(0, 4, 1);
        due.leaves(w, "the first with which it doesn't fall", () -> w.kindFor(0, 1), 1);
        due.refuses(x, Due.BEYOND, "kindFor(0, 61)", () -> x.kindFor(0, 61));
        due.refuses(x, Due.BEYOND, "kindFor(0, -1)", () -> x.kindFor(0, -1));
        due.refuses(x, Due.BEYOND, "kindFor(2, 0)", () -> x.kindFor(2, 0));
        due.refuses(x, Due.BEYOND, "kindFor(-1, 0)", () -> x.kindFor(-1, 0));
    }

    private static void walkFor(Due due) {
        due.promise(17, "walkFor");
        EnvyRust x = Due.town("looker likes 5 0 0 0 ; thing 0");
        due.is("the test's own text", x.count(1), 1);
        due.leaves(x, "on a single day none helps", () -> x.walkFor(0, 1), 0);
        due.leaves(x, "any that goes on", () -> x.walkFor(0, 2), 1);
        due.leaves(x, "walkFor(0, 0)", () -> x.walkFor(0, 0), 0);
        due.leaves(x, "comes round least in 60 days", () -> x.walkFor(0, 60), 1);
        for (int place = 1; place <= 7; place++) {
            x.thing(0, place);
        }
        due.leaves(x, "past them all at once", () -> x.walkFor(0, 2), 8);
        due.leaves(x, "past them all twice", () -> x.walkFor(0, 3), 12);
        x.change(0, 1, 15);
        due.leaves(x, "where nothing is", () -> x.walkFor(0, 60), 0);
        due.refuses(x, Due.BEYOND, "walkFor(0, 61)", () -> x.walkFor(0, 61));
        due.refuses(x, Due.BEYOND, "walkFor(0, -1)", () -> x.walkFor(0, -1));
        due.refuses(x, Due.BEYOND, "walkFor(1, 0)", () -> x.walkFor(1, 0));
        due.refuses(x, Due.BEYOND, "walkFor(-1, 0)", () -> x.walkFor(-1, 0));
        EnvyRust y = Due.town("looker at 1 likes 5 0 0 0; thing 0 at 1");
        for (int place = 2; place <= 8; place++) {
            y.thing(0, place);
        }
        y.forge(0, 1, 0);
        y.forge(1, 1, 15);
        due.leaves(y, "15 comes last", () -> y.walkFor(0, 2), 0);
    }

    private static void placeFor(Due due) {
        due.promise(18, "placeFor");
        EnvyRust x = Due.town("looker likes 5 0 0 0; looker at 8 walks 0 likes 5 0 0 0; thing 0; thing 0 at 3 thick 1");
        due.leaves(x, "placeFor(0, 0)", () -> x.placeFor(0, 0), 0);
        due.leaves(x, "placeFor(0, 1)", () -> x.placeFor(0, 1), 1);
        due.leaves(x, "placeFor(0, 7)", () -> x.placeFor(0, 7), 7);
        due.leaves(x, "placeFor(0, 8)", () -> x.placeFor(0, 8), 9);
        due.leaves(x, "placeFor(0, 15)", () -> x.placeFor(0, 15), 15);
        due.leaves(x, "all others were come by", () -> x.placeFor(0, 60), 12);
        due.leaves(x, "placeFor(1, 3)", () -> x.placeFor(1, 3), 3);
        x.forge(0, 5, 1);
        due.leaves(x, "it falls wherever it is", () -> x.placeFor(0, 20), 0);
        due.refuses(x, Due.BEYOND, "placeFor(0, 61)", () -> x.placeFor(0, 61));
        due.refuses(x, Due.BEYOND, "placeFor(0, -1)", () -> x.placeFor(0, -1));
        due.refuses(x, Due.BEYOND, "placeFor(2, 0)", () -> x.placeFor(2, 0));
        due.refuses(x, Due.BEYOND, "placeFor(-1, 0)", () -> x.placeFor(-1, 0));
    }

    private static void ownerFor(Due due) {
        due.promise(19, "ownerFor");
        EnvyRust x = new EnvyRust();
        due.refuses(x, Due.BEYOND, "ownerFor(0, 0)", () -> x.ownerFor(0, 0));
        x.thing(0, 0);
        due.refuses(x, Due.NONE, "ownerFor(0, 0)", () -> x.ownerFor(0, 0));
        due.refuses(x, Due.BEYOND, "ownerFor(0, 61)", () -> x.ownerFor(0, 61));
        due.refuses(x, Due.BEYOND, "ownerFor(0, -1)", () -> x.ownerFor(0, -1));
        due.refuses(x, Due.BEYOND, "ownerFor(-1, 0)", () -> x.ownerFor(-1, 0));
        Due.read(x, "looker walks 0 likes 3 0 0 0; looker at 4; rival walks 0 likes 2 0 0 0; rival at 5");
        due.leaves(x, "of those who wear it most", () -> x.ownerFor(0, 1), 0);
        x.change(2, 3, 4);
        due.leaves(x, "of those who wear it most", () -> x.ownerFor(0, 1), 2);
        due.leaves(x, "ownerFor(0, 0)", () -> x.ownerFor(0, 0), 0);
        x.change(0, 1, 9);
        x.change(2, 1, 9);
        due.leaves(x, "nobody wears it", () -> x.ownerFor(0, 10), 0);
        due.leaves(x, "of one who comes by once more", () -> x.ownerFor(0, 60), 3);
        EnvyRust y = Due.town("rival at 5; looker at 4; rival walks 0 likes 2 0 0 0; rival walks 0 likes 2 0 0 0; thing 0");
        due.leaves(y, "not a rival's", () -> y.ownerFor(0, 1), 1);
    }

    private static void worst(Due due) {
        due.promise(20, "worst");
        EnvyRust x = new EnvyRust();
        due.refuses(x, Due.NONE, "worst(0)", () -> x.worst(0));
        due.refuses(x, Due.BEYOND, "worst(61)", () -> x.worst(61));
        due.refuses(x, Due.BEYOND, "worst(-1)", () -> x.worst(-1));
        Due.read(x, "looker likes 1 1 1 1; looker at 3 likes 5 0 0 0; child at 6 likes 2 0 0 0");
        Due.read(x, "thing 0 at 6; thing 0 at 7; thing 1 at 8 thick 5 of 0");
        due.leaves(x, "worst(0)", () -> x.worst(0), 0);
        due.leaves(x, "worst(2)", () -> x.worst(2), 2);
        due.leaves(x, "worst(4)", () -> x.worst(4), 2);
        due.leaves(x, "worst(5)", () -> x.worst(5), 1);
        x.change(0, 3, 8);
        due.leaves(x, "worst(8)", () -> x.worst(8), 0);
        due.refuses(x, Due.BEYOND, "worst(MOST)", () -> x.worst(MOST));
        EnvyRust y = Due.town("looker at 9 likes 5 0 0 0; rival at 4; rival walks 0 likes 4 0 0 0; thing 0 at 0 of 1");
        due.leaves(y, "one whose envy is left out owns on", () -> y.worst(6), 2);
    }

    private static void paint(Due due) {
        due.promise(21, "paint");
        EnvyRust x = Due.town("looker walks 0 likes 2 5 4 0; thing 0; thing 1; thing 2; thing 3");
        due.leaves(x, "paint(0, 10)", () -> x.paint(0, 10), 0);
        due.leaves(x, "paint(1, 10)", () -> x.paint(1, 10), 2);
        due.leaves(x, "paint(2, 10)", () -> x.paint(2, 10), 6);
        due.leaves(x, "paint(3, 10)", () -> x.paint(3, 10), 7);
        due.leaves(x, "paint(4, 10)", () -> x.paint(4, 10), 15);
        due.leaves(x, "paint(8, 10)", () -> x.paint(8, 10), 15);
        due.leaves(x, "the least, if none is worn", () -> x.paint(2, 0), 3);
        x.forge(1, 3, 9);
        due.leaves(x, "what is painted already needs none", () -> x.paint(1, 10), 4);
        x.forge(3, 2, 999);
        x.forge(3, 5, 0);
        due.leaves(x, "what others hang on", () -> x.paint(1, 50), 1);
        due.leaves(x, "what others hang on", () -> x.paint(1, 49), 4);
        due.refuses(x, Due.BEYOND, "paint(9, 0)", () -> x.paint(9, 0));
        due.refuses(x, Due.BEYOND, "paint(-1, 0)", () -> x.paint(-1, 0));
        due.refuses(x, Due.BEYOND, "paint(0, 61)", () -> x.paint(0, 61));
        due.refuses(x, Due.BEYOND, "paint(0, -1)", () -> x.paint(0, -1));
        paintWhatOthersHangOn(due);
        EnvyRust y = new EnvyRust();
        due.leaves(y, "without things", () -> y.paint(3, 5), 0);
        for (int i = 0; i < 8; i++) {
            y.thing(0, i);
        }
        due.leaves(y, "paint(8, 60)", () -> y.paint(8, 60), 255);
        y.person(5, 2);
        y.change(0, 2, 5);
        due.leaves(y, "comes to 2 and 7", () -> y.paint(2, 2), 4 + 128);
    }

    private static void paintWhatOthersHangOn(Due due) {
        EnvyRust x = Due.town("looker walks 0 likes 2 5 0 0; thing 0 thick 20; thing 1 thick 999; thing 2 thick 500 on 0; thing 0 thick 1");
        due.leaves(x, "it would fall", () -> x.paint(1, 10), 1);
        due.leaves(x, "it wouldn't fall yet", () -> x.paint(1, 9), 2);
        due.leaves(x, "both that are worn most", () -> x.paint(2, 9), 3);
        x.forge(0, 2, 2);
        due.leaves(x, "on a single day", () -> x.paint(1, 1), 1);
        due.leaves(x, "on no day", () -> x.paint(1, 0), 1);
        x.forge(0, 2, 0);
        due.leaves(x, "what is gone can't be kept by paint", () -> x.paint(1, 1), 2);
        due.leaves(x, "what is gone, on no day", () -> x.paint(2, 0), 3);
        x.forge(2, 5, 3);
        due.leaves(x, "it would fall with another", () -> x.paint(1, 3), 8);
    }

    private static void needs(Due due) {
        due.promise(22, "needs");
        EnvyRust x = Due.town("looker walks 0 likes 9 0 0 0; thing 0 thick 50; thing 1 thick 9 on 0; thing 0 at 1 thick 0");
        due.leaves(x, "needs(0, 5)", () -> x.needs(0, 5), 0);
        due.leaves(x, "needs(0, 6)", () -> x.needs(0, 6), 1);
        due.leaves(x, "needs(0, 49)", () -> x.needs(0, 49), 8);
        due.leaves(x, "needs(0, 50)", () -> x.needs(0, 50), 9);
        due.leaves(x, "needs(1, 5)", () -> x.needs(1, 5), 0);
        due.refuses(x, Due.NONE, "needs(1, 6)", () -> x.needs(1, 6));
        due.refuses(x, Due.NONE, "needs(2, 0)", () -> x.needs(2, 0));
        x.forge(0, 3, 9);
        due.leaves(x, "also less than it has", () -> x.needs(0, 49), 8);
        due.refuses(x, Due.BEYOND, "needs(0, 61)", () -> x.needs(0, 61));
        due.refuses(x, Due.BEYOND, "needs(0, -1)", () -> x.needs(0, -1));
        due.refuses(x, Due.BEYOND, "needs(3, 0)", () -> x.needs(3, 0));
        due.refuses(x, Due.BEYOND, "needs(-1, 0)", () -> x.needs(-1, 0));
    }
}
