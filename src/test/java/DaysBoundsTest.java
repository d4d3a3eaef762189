import java.util.ArrayList;
import java.util.List;
import java.util.function.ToLongFunction;

/** Each sentence of promises 9 to 22 at its boundaries. */
public final class DaysBoundsTest {
    private static final int MOST = Integer.MAX_VALUE;

    public static void main(String[] args) {
        Due due = new Due();
        nothingChanges(due);
        go(due);
        goTooFar(due);
        now(due);
        ahead(due);
        lasts(due);
        gone(due);
        worn(due);
        sees(due);
        kindFor(due);
        walkFor(due);
        placeFor(due);
        ownerFor(due);
        worst(due);
        paint(due);
        paintHowMany(due);
        needs(due);
        due.end();
    }

    /** One that stays at 5 and likes sort 0 by 1; a thing of that sort there. */
    private static EnvyRust oneADay(int thick) {
        EnvyRust x = Due.town("looker at 5 walks 0 likes 1 0 0 0; thing 0 at 5");
        x.forge(0, 2, thick);
        return x;
    }

    /**
     * Number 0 goes round by 1 from 0, so that in 59 days it is 3 times at 11 to 15 and 4 times
     * elsewhere, in 60 days 4 times at 11, too. Number 1 goes likewise from 1.
     */
    private static EnvyRust rounds() {
        return Due.town("looker likes 1 0 0 0; looker at 1 likes 0 1 0 0");
    }

    private static List<ToLongFunction<EnvyRust>> questions() {
        List<ToLongFunction<EnvyRust>> all = new ArrayList<>();
        all.add(x -> x.ahead(0, 30));
        all.add(x -> x.lasts(0));
        all.add(x -> x.lasts(3));
        all.add(x -> x.gone(40));
        all.add(x -> x.worn(7));
        all.add(x -> x.worn(0));
        all.add(x -> x.sees(1, 2));
        all.add(x -> x.kindFor(0, 20));
        all.add(x -> x.kindFor(1, 0));
        all.add(x -> x.walkFor(0, 20));
        all.add(x -> x.placeFor(0, 20));
        all.add(x -> x.ownerFor(0, 20));
        all.add(x -> x.worst(20));
        all.add(x -> x.worst(60));
        all.add(x -> x.paint(1, 20));
        all.add(x -> x.paint(2, 60));
        all.add(x -> x.needs(0, 20));
        all.add(x -> x.needs(1, 60));
        all.add(x -> x.fits(0, 0, 0));
        all.add(x -> x.likes(0, 0, 0));
        return all;
    }

    private static EnvyRust asked() {
        EnvyRust x = Due.town("looker likes 9 3 1 0; thief at 2 walks 3 likes 8 6 0 0; child at 9 walks 5 likes 1 1 2 5",
            "thing 0 at 3 thick 90; thing 1 at 5 thick 50 paint 1 on 0; thing 0 at 8 of 2; thing 3 at 0 thick 9");
        Due.sheet(x, 0, 16, 90, -1, -1, 90, -1, 84);
        return x;
    }

    private static void nothingChanges(Due due) {
        due.says(0, "---- what will be (nothing changes).");
        List<ToLongFunction<EnvyRust>> all = questions();
        for (int first = 0; first < all.size(); first++) {
            EnvyRust x = asked();
            String before = Due.seen(x);
            long answer = all.get(first).applyAsLong(x);
            due.is("question " + first + " again", all.get(first).applyAsLong(x), answer);
            due.same("question " + first, before, Due.seen(x));
            for (int next = 0; next < all.size(); next++) {
                due.is("question " + next + " behind " + first, all.get(next).applyAsLong(x), all.get(next).applyAsLong(asked()));
            }
            EnvyRust y = asked();
            x.go(3);
            y.go(3);
            due.same("question " + first + " and 3 days", Due.seen(y), Due.seen(x));
        }
    }

    private static void go(Due due) {
        due.says(9, "n DAYS (1 to 60): how many THINGS are GONE.");
        int[][] rows = {{1, 1, 1, 0}, {1, 2, 0, 1}, {59, 60, 0, 1}, {60, 60, 1, 0}, {60, 61, 0, 1}, {60, 59, 1, 0}, {2, 2, 1, 0}, {2, 3, 0, 1}};
        for (int[] row : rows) {
            EnvyRust x = oneADay(row[1]);
            due.is(row[0] + " days of " + row[1], x.go(row[0]), row[2]);
            due.is("what is left", x.thingOf(0, 2), row[3]);
            due.is("day", x.now(0), row[0]);
        }
        EnvyRust x = oneADay(2);
        x.thing(0, 9);
        x.forge(1, 2, 0);
        due.is("what was gone before counts", x.go(1), 1);
        due.is("and what is gone now", x.go(1), 2);
        due.is("both stay so", x.go(60), 2);
        EnvyRust y = new EnvyRust();
        due.is("of none", y.go(60), 0);
        for (int i = 0; i < 8; i++) {
            y.thing(0, 0);
            y.forge(i, 2, 0);
        }
        due.is("all eight", y.go(1), 8);
        due.says(9, "BEYOND.");
        due.outside(x, "go", 1, 60, x::go);
        due.outside(y, "go", 1, 60, y::go);
    }

    private static EnvyRust onDay(int day) {
        EnvyRust x = oneADay(999);
        while (x.now(0) + 60 <= day) {
            x.go(60);
        }
        if (x.now(0) < day) {
            x.go(day - x.now(0));
        }
        return x;
    }

    private static void goTooFar(Due due) {
        due.says(9, "STATE: DAY would be above 99999.");
        int[] days = {1, 2, 59, 60};
        for (int n : days) {
            EnvyRust x = onDay(99999 - n + 1);
            x.forge(0, 2, 999);
            due.refuses(x, Due.STATE, "one day too far by " + n, () -> x.go(n));
            EnvyRust y = onDay(99999 - n);
            y.forge(0, 2, 999);
            due.is("just not too far by " + n, y.go(n), 0);
            due.is("the last day", y.now(0), 99999);
            due.is("worn", y.thingOf(0, 2), 999 - n);
            due.refuses(y, Due.STATE, "on the last day", () -> y.go(1));
            due.is("what would be is asked on the last day, too", y.ahead(0, 100), 999 - n - 100);
        }
    }

    private static void now(Due due) {
        due.says(10, "What 0 DAY, 1 THINGS that are GONE, as a set, 2 THICK of all together, 3 how much would be worn now, together, 4 THINGS AT whose PLACE somebody is, as a set.");
        EnvyRust x = new EnvyRust();
        for (int what = 0; what <= 4; what++) {
            int w = what;
            due.leaves(x, "now(" + w + ") of none", () -> x.now(w), 0);
        }
        for (int i = 0; i < 8; i++) {
            x.thing(0, 2 * i);
            x.forge(i, 2, 999);
        }
        due.is("all thick together", x.now(2), 7992);
        due.is("nobody is anywhere", x.now(4), 0);
        for (int i = 0; i < 8; i++) {
            x.person(0, 2 * i + 1);
            due.is("somebody a place further on", x.now(4), 0);
        }
        due.is("nothing would be worn", x.now(3), 0);
        for (int i = 0; i < 8; i++) {
            x.change(i, 1, 2 * i);
            due.is("somebody is where " + i + " is", x.now(4), (2 << i) - 1);
            due.is("so much would be worn", x.now(3), i + 1);
        }
        x.forge(7, 2, 1);
        due.is("1 of 1", x.now(3), 8);
        x.forge(7, 2, 0);
        due.is("0 of 0", x.now(3), 7);
        due.is("gone", x.now(1), 128);
        due.is("also where what is gone is", x.now(4), 255);
        due.is("all thick together", x.now(2), 6993);
        x.forge(0, 2, 0);
        due.is("gone", x.now(1), 129);
        x.go(1);
        due.is("day", x.now(0), 1);
        EnvyRust faulty = Due.town("thing 0 at 4; looker at 4 likes 0 0 0 0");
        Due.read(faulty, "looker at 4 likes 9 9 9 9; thing 0 at 4;");
        due.is("what a fault told isn't there", faulty.now(3), 0);
        due.is("what a fault told isn't there", faulty.now(4), 1);
        due.says(10, "BEYOND.");
        due.outside(x, "now", 0, 4, x::now);
    }

    private static void ahead(Due due) {
        due.says(11, "THICK of a THING behind n (0 to 100) DAYS.");
        EnvyRust x = oneADay(999);
        due.goes(x, "ahead(0, n)", 0, 999, 100, 899, n -> x.ahead(0, n));
        due.leaves(x, "ahead(0, 1)", () -> x.ahead(0, 1), 998);
        due.leaves(x, "ahead(0, 99)", () -> x.ahead(0, 99), 900);
        x.forge(0, 2, 100);
        due.leaves(x, "ahead(0, 99) of 100", () -> x.ahead(0, 99), 1);
        due.leaves(x, "ahead(0, 100) of 100", () -> x.ahead(0, 100), 0);
        x.forge(0, 2, 99);
        due.leaves(x, "ahead(0, 100) of 99", () -> x.ahead(0, 100), 0);
        due.says(11, "BEYOND.");
        due.outside(x, "ahead of thing", 0, 0, v -> x.ahead(v, 0));
        due.outside(x, "ahead of thing", 0, 0, v -> x.ahead(v, 100));
        due.outside(x, "ahead by days", 0, 100, v -> x.ahead(0, v));
    }

    private static void lasts(Due due) {
        due.says(12, "Behind how many DAYS (0 to 100, the fewest) a THING is GONE.");
        int[] lasting = {0, 1, 2, 59, 60, 61, 99, 100};
        for (int thick : lasting) {
            EnvyRust x = oneADay(thick);
            due.leaves(x, "lasts(0) of " + thick, () -> x.lasts(0), thick);
        }
        due.says(12, "BEYOND.");
        EnvyRust x = oneADay(100);
        due.outside(x, "lasts", 0, 0, x::lasts);
        due.says(12, "NONE.");
        due.leaves(x, "100", () -> x.lasts(0), 100);
        x.forge(0, 2, 101);
        due.refuses(x, Due.NONE, "101", () -> x.lasts(0));
        x.forge(0, 2, 999);
        due.refuses(x, Due.NONE, "999", () -> x.lasts(0));
        x.forge(0, 2, 1);
        x.forge(0, 3, 9);
        due.refuses(x, Due.NONE, "never", () -> x.lasts(0));
    }

    private static void gone(Due due) {
        due.says(13, "THINGS that are GONE behind n (0 to 100) DAYS, as a set.");
        EnvyRust x = oneADay(100);
        x.thing(0, 9);
        x.forge(1, 2, 0);
        x.thing(0, 5);
        x.forge(2, 2, 1);
        due.goes(x, "gone(n)", 0, 2, 100, 7, x::gone);
        due.leaves(x, "gone(1)", () -> x.gone(1), 6);
        due.leaves(x, "gone(99)", () -> x.gone(99), 6);
        x.forge(0, 2, 101);
        due.leaves(x, "gone(100) of 101", () -> x.gone(100), 6);
        EnvyRust none = new EnvyRust();
        due.leaves(none, "gone(100) of none", () -> none.gone(100), 0);
        due.says(13, "BEYOND.");
        due.outside(x, "gone", 0, 100, x::gone);
        due.outside(none, "gone", 0, 100, none::gone);
    }

    private static void worn(Due due) {
        due.says(14, "How much THICK all lose in n (0 to 100) DAYS, together.");
        EnvyRust x = oneADay(999);
        x.thing(0, 5);
        due.goes(x, "worn(n)", 0, 0, 100, 200, x::worn);
        due.leaves(x, "worn(1)", () -> x.worn(1), 2);
        due.leaves(x, "worn(99)", () -> x.worn(99), 198);
        x.forge(1, 2, 99);
        due.leaves(x, "worn(100), no more than there is", () -> x.worn(100), 199);
        x.forge(0, 5, 1);
        due.leaves(x, "what falls is lost", () -> x.worn(99), 999 + 99);
        due.leaves(x, "a day ahead of that", () -> x.worn(98), 98 + 98);
        x.forge(0, 5, -1);
        x.forge(0, 2, 0);
        x.forge(1, 2, 0);
        due.leaves(x, "what is gone loses nothing", () -> x.worn(100), 0);
        EnvyRust none = new EnvyRust();
        due.leaves(none, "worn(100) of none", () -> none.worn(100), 0);
        due.says(14, "BEYOND.");
        due.outside(x, "worn", 0, 100, x::worn);
        due.outside(none, "worn", 0, 100, none::worn);
    }

    private static void sees(Due due) {
        due.says(15, "Behind how many DAYS (0 to 100, the fewest) one is AT the PLACE of a THING.");
        EnvyRust x = Due.town("looker at 3; thing 0");
        int[][] rows = {{1, 3, 0}, {1, 4, 1}, {1, 2, 15}, {15, 4, 15}, {15, 2, 1}, {2, 1, 7}, {2, 5, 1}, {7, 2, 9}, {8, 11, 1}, {4, 15, 3}, {0, 3, 0}, {14, 5, 7}};
        for (int[] row : rows) {
            x.change(0, 2, row[0]);
            x.forge(0, 1, row[1]);
            due.leaves(x, "by " + row[0] + " from 3 to " + row[1], () -> x.sees(0, 0), row[2]);
        }
        x.forge(0, 2, 0);
        due.leaves(x, "gone", () -> x.sees(0, 0), 7);
        due.says(15, "BEYOND.");
        due.outside(x, "sees by", 0, 0, v -> x.sees(v, 0));
        due.outside(x, "sees thing", 0, 0, v -> x.sees(0, v));
        due.says(15, "NONE.");
        int[][] never = {{0, 2}, {0, 4}, {2, 2}, {2, 4}, {4, 5}, {8, 10}, {8, 12}, {14, 4}, {6, 4}};
        for (int[] row : never) {
            x.change(0, 2, row[0]);
            x.forge(0, 1, row[1]);
            due.refuses(x, Due.NONE, "by " + row[0] + " from 3 to " + row[1], () -> x.sees(0, 0));
        }
    }

    private static void kindFor(Due due) {
        due.says(16, "The KIND as which one lets all lose least in n (0 to 60) DAYS.");
        // As a praiser one wears 1 a day, else 2 or more: 60 in 60 days, which is all there is.
        EnvyRust x = Due.town("child walks 0 likes 4 0 0 0; looker at 9; thing 0 thick 60 of 1");
        due.goes(x, "kindFor(0, n)", 0, 0, 60, 0, n -> x.kindFor(0, n));
        due.leaves(x, "kindFor(0, 59)", () -> x.kindFor(0, 59), 3);
        due.leaves(x, "kindFor(0, 1)", () -> x.kindFor(0, 1), 3);
        x.forge(0, 2, 61);
        due.leaves(x, "kindFor(0, 60) of 61", () -> x.kindFor(0, 60), 3);
        x.change(0, 3, 3);
        due.leaves(x, "a praiser and a thief by 0", () -> x.kindFor(0, 60), 3);
        x.change(0, 3, 9);
        due.leaves(x, "the modest by 4, a praiser by 6", () -> x.kindFor(0, 3), 1);
        x.forge(0, 4, -1);
        due.leaves(x, "a beggar by 0", () -> x.kindFor(0, 3), 6);
        x.change(0, 3, 0);
        due.leaves(x, "as any", () -> x.kindFor(0, 60), 0);
        due.says(16, "BEYOND.");
        due.outside(x, "kindFor", 0, 1, v -> x.kindFor(v, 0));
        due.outside(x, "kindFor", 0, 1, v -> x.kindFor(v, 60));
        due.outside(x, "kindFor by days", 0, 60, v -> x.kindFor(0, v));
        due.outside(x, "kindFor by days", 0, 60, v -> x.kindFor(1, v));
    }

    private static void walkFor(Due due) {
        due.says(17, "The WALK with which one lets all lose least in n (0 to 60) DAYS.");
        // By 1 it is at 11 on the 60th day: then by 5 is better, which comes to 11 once less.
        EnvyRust x = Due.town("looker walks 7 likes 1 0 0 0; looker at 8 likes 0 0 0 0; thing 0; thing 0 at 11");
        due.goes(x, "walkFor(0, n)", 0, 0, 60, 5, n -> x.walkFor(0, n));
        due.leaves(x, "walkFor(0, 59)", () -> x.walkFor(0, 59), 1);
        due.leaves(x, "walkFor(0, 1)", () -> x.walkFor(0, 1), 0);
        due.leaves(x, "walkFor(0, 2)", () -> x.walkFor(0, 2), 1);
        EnvyRust y = Due.town("looker; thing0; thing0at2; thing0at4; thing0at6; thing0at7; thing0at10; thing0at12");
        due.leaves(y, "all others come by one in 3 days", () -> y.walkFor(0, 3), 15);
        EnvyRust z = Due.town("looker; thing0; thing0at1; thing0at2; thing0at4; thing0at6; thing0at10; thing0at12");
        due.leaves(z, "all others come by one in 3 days", () -> z.walkFor(0, 3), 7);
        due.says(17, "BEYOND.");
        due.outside(x, "walkFor", 0, 1, v -> x.walkFor(v, 0));
        due.outside(x, "walkFor", 0, 1, v -> x.walkFor(v, 60));
        due.outside(x, "walkFor by days", 0, 60, v -> x.walkFor(0, v));
        due.outside(x, "walkFor by days", 0, 60, v -> x.walkFor(1, v));
    }

    private static void placeFor(Due due) {
        due.says(18, "The PLACE AT which a THING would be thickest behind n (0 to 60) DAYS.");
        EnvyRust x = rounds();
        x.thing(0, 7);
        x.thing(0, 7);
        due.goes(x, "placeFor(0, n)", 0, 0, 60, 12, n -> x.placeFor(0, n));
        int[][] rows = {{1, 1}, {2, 2}, {14, 14}, {15, 15}, {16, 0}, {17, 1}, {59, 11}, {31, 15}, {32, 0}};
        for (int[] row : rows) {
            due.leaves(x, "placeFor(0, " + row[0] + ")", () -> x.placeFor(0, row[0]), row[1]);
        }
        x.forge(0, 2, 1);
        due.leaves(x, "gone, wherever anybody came by", () -> x.placeFor(0, 15), 15);
        due.leaves(x, "gone, wherever it is", () -> x.placeFor(0, 16), 0);
        due.says(18, "BEYOND.");
        due.outside(x, "placeFor", 0, 1, v -> x.placeFor(v, 0));
        due.outside(x, "placeFor", 0, 1, v -> x.placeFor(v, 60));
        due.outside(x, "placeFor by days", 0, 60, v -> x.placeFor(0, v));
        due.outside(x, "placeFor by days", 0, 60, v -> x.placeFor(1, v));
    }

    private static void ownerFor(Due due) {
        due.says(19, "The one of PEOPLE as whose a THING would be thickest behind n (0 to 60) DAYS.");
        // Number 0 is at 11 for the 4th time on the 60th day, number 1 ahead of that.
        EnvyRust x = rounds();
        x.change(1, 3, 1);
        x.thing(0, 11);
        x.thing(0, 11);
        due.goes(x, "ownerFor(0, n)", 0, 0, 60, 0, n -> x.ownerFor(0, n));
        due.leaves(x, "ownerFor(0, 59)", () -> x.ownerFor(0, 59), 1);
        due.leaves(x, "ownerFor(0, 58)", () -> x.ownerFor(0, 58), 0);
        due.leaves(x, "ownerFor(0, 1)", () -> x.ownerFor(0, 1), 0);
        for (int i = 2; i < 8; i++) {
            x.person(0, 11);
        }
        x.change(7, 3, 2);
        due.leaves(x, "the last of eight", () -> x.ownerFor(0, 1), 7);
        due.says(19, "BEYOND.");
        due.outside(x, "ownerFor", 0, 1, v -> x.ownerFor(v, 0));
        due.outside(x, "ownerFor", 0, 1, v -> x.ownerFor(v, 60));
        due.outside(x, "ownerFor by days", 0, 60, v -> x.ownerFor(0, v));
        due.says(19, "NONE: there is nobody.");
        EnvyRust none = Due.town("thing 0");
        due.refuses(none, Due.NONE, "ownerFor(0, 0)", () -> none.ownerFor(0, 0));
        due.refuses(none, Due.NONE, "ownerFor(0, 60)", () -> none.ownerFor(0, 60));
        due.refuses(none, Due.BEYOND, "ownerFor(1, 0)", () -> none.ownerFor(1, 0));
        due.refuses(none, Due.BEYOND, "ownerFor(0, 61)", () -> none.ownerFor(0, 61));
        none.person(0, 0);
        due.leaves(none, "there is somebody", () -> none.ownerFor(0, 60), 0);
    }

    private static void worst(Due due) {
        due.says(20, "The one without whose ENVY (0 for all; all else as it is) all would lose least in n (0 to 60) DAYS.");
        EnvyRust x = rounds();
        x.change(1, 3, 1);
        x.thing(0, 11);
        due.goes(x, "worst(n)", 0, 0, 60, 0, x::worst);
        due.leaves(x, "worst(59)", () -> x.worst(59), 1);
        due.leaves(x, "worst(58)", () -> x.worst(58), 0);
        due.leaves(x, "worst(1)", () -> x.worst(1), 0);
        for (int i = 2; i < 8; i++) {
            x.person(0, 11);
        }
        x.change(7, 3, 2);
        due.leaves(x, "the last of eight", () -> x.worst(1), 7);
        // Without its envy for all: number 1 wears each a little, number 0 one of them more than that.
        EnvyRust y = Due.town("looker walks 0 likes 3 0 0 0; looker walks 0 likes 1 1 1 1; thing 0; thing 1; thing 2; thing 3");
        due.leaves(y, "for all", () -> y.worst(1), 1);
        // All else as it is: whose envy is left out still owns, as a rival does.
        EnvyRust z = Due.town("rival walks 0; rival walks 0 likes 0 0 0 0; rival walks 0 likes 0 0 0 0; thing 0 of 0");
        due.leaves(z, "a rival's still, which rivals envy by 2", () -> z.worst(1), 1);
        EnvyRust w = Due.town("looker walks 0 likes 2 0 0 0; looker walks 0 likes 3 0 0 0; thing 0 thick 3");
        due.leaves(w, "0 left and 1 left", () -> w.worst(1), 1);
        w.forge(0, 2, 2);
        due.leaves(w, "0 left and 0 left", () -> w.worst(1), 0);
        due.says(20, "BEYOND.");
        due.outside(x, "worst", 0, 60, x::worst);
        due.says(20, "NONE: there is nobody.");
        EnvyRust none = Due.town("thing 0");
        due.refuses(none, Due.NONE, "worst(0)", () -> none.worst(0));
        due.refuses(none, Due.NONE, "worst(60)", () -> none.worst(60));
        due.refuses(none, Due.BEYOND, "worst(61)", () -> none.worst(61));
        EnvyRust one = new EnvyRust();
        one.person(0, 0);
        due.leaves(one, "there is somebody", () -> one.worst(60), 0);
    }

    private static void paint(Due due) {
        due.says(21, "The set of k (0 to 8) THINGS (all, if there are no more) that, painted 9, let all lose least in n (0 to 60) DAYS; of several the least.");
        // Number 0 is at 11 for the 4th time on the 60th day, at 10 ahead of that.
        EnvyRust x = rounds();
        x.thing(0, 11);
        x.thing(0, 10);
        due.goes(x, "paint(1, n)", 0, 1, 60, 1, n -> x.paint(1, n));
        due.leaves(x, "paint(1, 59)", () -> x.paint(1, 59), 2);
        due.leaves(x, "paint(1, 58)", () -> x.paint(1, 58), 1);
        due.goes(x, "paint(k, 60)", 0, 0, 8, 3, k -> x.paint(k, 60));
        due.goes(x, "paint(k, 0)", 0, 0, 8, 3, k -> x.paint(k, 0));
        due.says(21, "of several the least.");
        EnvyRust y = Due.town("looker walks 0 likes 3 3 3 0; thing 3; thing 0; thing 1; thing 3; thing 2; thing 0 at 9");
        int[] sets = {0, 2, 2 + 4, 2 + 4 + 16, 1 + 2 + 4 + 16, 1 + 2 + 4 + 8 + 16, 63, 63, 63};
        for (int k = 0; k <= 8; k++) {
            int many = k;
            due.leaves(y, "paint(" + k + ", 5)", () -> y.paint(many, 5), sets[k]);
            due.leaves(y, "paint(" + k + ", 0)", () -> y.paint(many, 0), (1 << Math.min(k, 6)) - 1);
        }
        EnvyRust w = Due.town("looker walks 0 likes 2 5 0 0; thing 0 thick 20; thing 1 thick 999; thing 2 thick 500 on 0");
        due.leaves(w, "nothing would fall yet", () -> w.paint(1, 9), 2);
        due.leaves(w, "500 would fall", () -> w.paint(1, 10), 1);
        w.forge(0, 2, 0);
        due.leaves(w, "what fell can't be kept", () -> w.paint(1, 10), 2);
        due.leaves(w, "nothing falls on no day", () -> w.paint(1, 0), 1);
        due.leaves(w, "nothing falls on no day", () -> w.paint(2, 0), 3);
        EnvyRust thin = Due.town("looker walks 0 likes 5 0 0 0; thing 0 thick 0; thing 0 thick 1");
        due.leaves(thin, "0 left and 1 left", () -> thin.paint(1, 1), 2);
        due.leaves(thin, "1 left and 1 left", () -> thin.paint(1, 0), 1);
        due.says(21, "BEYOND.");
        due.outside(y, "paint of k", 0, 8, v -> y.paint(v, 0));
        due.outside(y, "paint of k", 0, 8, v -> y.paint(v, 60));
        due.outside(y, "paint by days", 0, 60, v -> y.paint(0, v));
        due.outside(y, "paint by days", 0, 60, v -> y.paint(8, v));
        due.refuses(y, Due.BEYOND, "both", () -> y.paint(MOST, MOST));
    }

    private static void paintHowMany(Due due) {
        due.says(21, "(all, if there are no more)");
        for (int things = 0; things <= 8; things++) {
            EnvyRust x = Due.town("looker walks 0 likes 3 3 3 3");
            for (int i = 0; i < things; i++) {
                x.thing(0, i == things - 1 ? 0 : 9);
            }
            for (int k = 0; k <= 8; k++) {
                int many = k;
                int few = Math.max(0, Math.min(k, things) - 1);
                int want = k == 0 || things == 0 ? 0 : (1 << things - 1) + (1 << few) - 1;
                due.leaves(x, "paint(" + k + ", 3) with " + things, () -> x.paint(many, 3), want);
            }
        }
    }

    private static void needs(Due due) {
        due.says(22, "The least PAINT (0 to 9) with which a THING isn't GONE behind n (0 to 60) DAYS.");
        EnvyRust x = oneADay(60);
        due.goes(x, "needs(0, n)", 0, 0, 60, 1, n -> x.needs(0, n));
        due.leaves(x, "needs(0, 59)", () -> x.needs(0, 59), 0);
        x.change(0, 3, 9);
        x.forge(0, 2, 61);
        int[][] rows = {{60, 8}, {31, 8}, {30, 7}, {8, 2}, {7, 1}, {6, 0}};
        for (int[] row : rows) {
            due.leaves(x, "needs(0, " + row[0] + ") of 61", () -> x.needs(0, row[0]), row[1]);
        }
        x.forge(0, 2, 60);
        due.leaves(x, "only 9 is enough", () -> x.needs(0, 60), 9);
        x.forge(0, 3, 9);
        due.leaves(x, "what it has is nothing to it", () -> x.needs(0, 59), 8);
        due.says(22, "BEYOND.");
        due.outside(x, "needs of thing", 0, 0, v -> x.needs(v, 0));
        due.outside(x, "needs of thing", 0, 0, v -> x.needs(v, 60));
        due.outside(x, "needs by days", 0, 60, v -> x.needs(0, v));
        due.says(22, "NONE: with none.");
        x.forge(0, 2, 0);
        due.refuses(x, Due.NONE, "gone on no day", () -> x.needs(0, 0));
        due.refuses(x, Due.NONE, "gone on all", () -> x.needs(0, 60));
        x.forge(0, 2, 1);
        due.leaves(x, "1 thick", () -> x.needs(0, 60), 9);
        x.thing(0, 5);
        x.forge(1, 2, 0);
        x.forge(0, 5, 1);
        due.leaves(x, "it falls, but on no day", () -> x.needs(0, 0), 0);
        due.refuses(x, Due.NONE, "it falls with any", () -> x.needs(0, 1));
    }
}
