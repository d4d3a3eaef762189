/** Each sentence of promises 23 to 36 at its boundaries. */
public final class DealsBoundsTest {
    private static final int LEAST = Integer.MIN_VALUE;
    private static final int MOST = Integer.MAX_VALUE;

    public static void main(String[] args) {
        Due due = new Due();
        fallsWith(due);
        depth(due);
        keystone(due);
        fells(due);
        worth(due);
        deal(due);
        deals(due);
        lesser(due);
        envious(due);
        fits(due);
        fitsFindings(due);
        likes(due);
        strolls(due);
        strollsTooFar(due);
        odds(due);
        seed(due);
        due.end();
    }

    /** 8 things, each but the last hanging on the next one. */
    private static EnvyRust chain() {
        EnvyRust x = new EnvyRust();
        for (int i = 0; i < 8; i++) {
            x.thing(0, i);
        }
        for (int i = 0; i < 7; i++) {
            x.forge(i, 5, i + 1);
        }
        return x;
    }

    private static void fallsWith(Due due) {
        due.says(23, "THINGS that are GONE with a THING (it, and all that HANG on it, and on these), as a set.");
        EnvyRust x = chain();
        for (int thing = 0; thing < 8; thing++) {
            int t = thing;
            due.leaves(x, "fallsWith(" + t + ") of a chain", () -> x.fallsWith(t), (2 << t) - 1);
        }
        x.forge(3, 5, -1);
        due.leaves(x, "up to where it is cut", () -> x.fallsWith(3), 15);
        due.leaves(x, "from where it is cut", () -> x.fallsWith(7), 240);
        x.forge(3, 5, 7);
        due.leaves(x, "two arms", () -> x.fallsWith(7), 255);
        due.leaves(x, "an arm", () -> x.fallsWith(4), 16);
        x.forge(7, 2, 0);
        x.forge(3, 2, 0);
        due.leaves(x, "what is gone already is gone with it, too", () -> x.fallsWith(7), 255);
        EnvyRust one = Due.town("thing 0");
        due.leaves(one, "it alone", () -> one.fallsWith(0), 1);
        due.says(23, "BEYOND.");
        due.outside(x, "fallsWith", 0, 7, x::fallsWith);
        due.outside(one, "fallsWith", 0, 0, one::fallsWith);
        EnvyRust none = new EnvyRust();
        due.refuses(none, Due.BEYOND, "there is none", () -> none.fallsWith(0));
    }

    private static void depth(Due due) {
        due.says(24, "How many THINGS a THING HANGS on, one on the other (0: on none).");
        EnvyRust x = chain();
        for (int thing = 0; thing < 8; thing++) {
            int t = thing;
            due.leaves(x, "depth(" + t + ") of a chain", () -> x.depth(t), 7 - t);
        }
        x.forge(7, 2, 0);
        due.leaves(x, "also on what is gone", () -> x.depth(0), 7);
        x.forge(6, 5, -1);
        due.leaves(x, "one fewer", () -> x.depth(0), 6);
        x.forge(6, 5, 7);
        x.forge(0, 5, 7);
        due.leaves(x, "one alone", () -> x.depth(0), 1);
        due.says(24, "BEYOND.");
        due.outside(x, "depth", 0, 7, x::depth);
        EnvyRust none = new EnvyRust();
        due.refuses(none, Due.BEYOND, "there is none", () -> none.depth(0));
    }

    private static void keystone(Due due) {
        due.says(25, "The THING with which most are GONE.");
        EnvyRust x = chain();
        due.leaves(x, "the last of a chain", x::keystone, 7);
        x.forge(3, 5, -1);
        due.leaves(x, "4 and 4: the least", x::keystone, 3);
        x.forge(0, 5, 7);
        due.leaves(x, "3 and 5", x::keystone, 7);
        x.forge(0, 5, 3);
        x.forge(4, 5, 3);
        due.leaves(x, "5 and 3", x::keystone, 3);
        x.forge(1, 2, 0);
        x.forge(2, 2, 0);
        x.forge(3, 2, 0);
        due.leaves(x, "what is gone already is gone with it, too", x::keystone, 3);
        EnvyRust two = Due.town("thing 0; thing 0");
        due.leaves(two, "each alone", two::keystone, 0);
        two.forge(0, 5, 1);
        due.leaves(two, "0 on 1", two::keystone, 1);
        EnvyRust one = Due.town("thing 0 thick 0");
        due.leaves(one, "only one", one::keystone, 0);
        due.says(25, "NONE: there are no THINGS.");
        EnvyRust none = new EnvyRust();
        due.refuses(none, Due.NONE, "keystone()", none::keystone);
        none.thing(0, 0);
        due.leaves(none, "keystone() now", none::keystone, 0);
    }

    private static void fells(Due due) {
        due.says(26, "The set of fewest THINGS with which all are GONE; of several the least.");
        EnvyRust none = new EnvyRust();
        due.leaves(none, "of none", none::fells, 0);
        none.thing(0, 0);
        due.leaves(none, "of one", none::fells, 1);
        EnvyRust x = chain();
        due.leaves(x, "the last of a chain", x::fells, 128);
        x.forge(3, 5, -1);
        due.leaves(x, "of two chains", x::fells, 8 + 128);
        for (int thing = 0; thing < 7; thing++) {
            x.forge(thing, 5, -1);
        }
        due.leaves(x, "each alone", x::fells, 255);
        x.forge(2, 2, 0);
        due.leaves(x, "what is gone already, too", x::fells, 255);
        for (int thing = 1; thing < 8; thing++) {
            x.forge(thing, 5, 0);
        }
        due.leaves(x, "all on the first", x::fells, 1);
    }

    private static void worth(Due due) {
        due.says(27, "WORTH of a set of THINGS to one: ENVY for each, as if nobody were their OWNER, together.");
        EnvyRust x = Due.town("rival likes 9 9 9 9; rival likes 5 0 0 0; beggar likes 9 9 9 9; thief likes 3 0 0 0");
        for (int i = 0; i < 8; i++) {
            x.thing(0, i);
        }
        int[] each = {9, 5, 0, 1};
        for (int one = 0; one < 4; one++) {
            int p = one;
            for (int owner = -1; owner < 4; owner++) {
                x.forge(7, 4, owner);
                due.leaves(x, "thing 7 to " + p + ", which is that of " + owner, () -> x.worth(p, 128), each[p]);
            }
            due.leaves(x, "nothing", () -> x.worth(p, 0), 0);
            due.leaves(x, "thing 0", () -> x.worth(p, 1), each[p]);
            due.leaves(x, "all", () -> x.worth(p, 255), 8 * each[p]);
            due.leaves(x, "all but one", () -> x.worth(p, 254), 7 * each[p]);
        }
        x.forge(7, 2, 0);
        due.leaves(x, "what is gone", () -> x.worth(0, 128), 0);
        x.forge(0, 3, 9);
        due.leaves(x, "painted", () -> x.worth(0, 255), 54);
        due.says(27, "BEYOND: of THINGS that there are.");
        due.outside(x, "worth to", 0, 3, v -> x.worth(v, 0));
        due.outside(x, "worth of", 0, 255, v -> x.worth(0, v));
        EnvyRust y = Due.town("looker");
        for (int things = 0; things < 8; things++) {
            int all = (1 << things) - 1;
            due.leaves(y, "worth of all " + things, () -> y.worth(0, all), things);
            due.outside(y, "worth of " + things, 0, all, v -> y.worth(0, v));
            y.thing(0, 0);
        }
    }

    /** Two who like each sort so; a thing of each sort. */
    private static EnvyRust two(String one, String other) {
        return Due.town("looker likes " + one + "; looker likes " + other, "thing 0; thing 1; thing 2; thing 3");
    }

    private static void deal(Due due) {
        due.says(28, "Two deal a set of THINGS between them, so that to neither what the other one has is WORTH more than its own: what the first one has; of several the least set.");
        EnvyRust x = two("4 3 1 0", "4 3 1 0");
        due.leaves(x, "4 and 4, the 0 to either", () -> x.deal(0, 1, 15), 1);
        due.leaves(x, "the other way round", () -> x.deal(1, 0, 15), 1);
        due.leaves(x, "nothing", () -> x.deal(0, 1, 0), 0);
        due.leaves(x, "what is worth nothing", () -> x.deal(0, 1, 8), 0);
        due.leaves(x, "thing 0 to one, 1 and 2 to the other", () -> x.deal(0, 1, 7), 1);
        EnvyRust y = two("5 3 1 0", "4 3 1 0");
        due.leaves(y, "just enough for the other", () -> y.deal(0, 1, 7), 1);
        due.leaves(y, "just enough for the first", () -> y.deal(1, 0, 7), 6);
        EnvyRust z = two("9 9 9 9", "0 0 0 5");
        due.leaves(z, "two and two", () -> z.deal(0, 1, 15), 3);
        due.leaves(z, "all but one", () -> z.deal(0, 1, 14), 6);
        EnvyRust w = Due.town("looker; looker", "thing 0; thing 0; thing 0; thing 0; thing 0; thing 0; thing 0; thing 0");
        due.leaves(w, "four of eight", () -> w.deal(0, 1, 255), 15);
        due.leaves(w, "two of the last four", () -> w.deal(0, 1, 240), 48);
        dealRefused(due);
    }

    private static void dealRefused(Due due) {
        due.says(28, "BEYOND: also one and the same.");
        EnvyRust x = two("1 1 1 1", "1 1 1 1");
        due.outside(x, "deal of the first", 0, 1, v -> x.deal(v, 0, 0));
        due.outside(x, "deal of the first", 0, 1, v -> x.deal(v, 1, 0));
        due.outside(x, "deal with the other", 0, 1, v -> x.deal(0, v, 0));
        due.outside(x, "deal of things", 0, 15, v -> x.deal(0, 1, v));
        due.refuses(x, Due.BEYOND, "deal(0, 0, 0)", () -> x.deal(0, 0, 0));
        due.refuses(x, Due.BEYOND, "deal(1, 1, 15)", () -> x.deal(1, 1, 15));
        due.says(28, "NONE.");
        due.refuses(x, Due.NONE, "one", () -> x.deal(0, 1, 1));
        due.refuses(x, Due.NONE, "three", () -> x.deal(0, 1, 7));
        due.leaves(x, "two", () -> x.deal(0, 1, 6), 2);
        EnvyRust y = two("5 3 1 0", "5 3 1 0");
        due.refuses(y, Due.NONE, "5 and 4", () -> y.deal(0, 1, 15));
        y.change(1, 3, 4);
        due.leaves(y, "4 and 4 to the other", () -> y.deal(0, 1, 15), 1);
        y.change(1, 3, 3);
        due.leaves(y, "3 and 4 to the other", () -> y.deal(0, 1, 15), 1);
    }

    private static void deals(Due due) {
        due.says(29, "How many such deals there are.");
        EnvyRust x = two("1 1 1 1", "1 1 1 1");
        int[] many = {1, 0, 2, 0, 6};
        for (int set = 0; set <= 15; set++) {
            int s = set;
            due.leaves(x, "deals(0, 1, " + s + ")", () -> x.deals(0, 1, s), many[Integer.bitCount(s)]);
        }
        EnvyRust y = two("0 0 0 0", "0 0 0 0");
        due.leaves(y, "as one likes", () -> y.deals(0, 1, 15), 16);
        for (int i = 0; i < 4; i++) {
            y.thing(0, 0);
        }
        due.leaves(y, "as one likes", () -> y.deals(0, 1, 255), 256);
        due.says(29, "BEYOND likewise.");
        due.outside(x, "deals of the first", 0, 1, v -> x.deals(v, 0, 0));
        due.outside(x, "deals of the first", 0, 1, v -> x.deals(v, 1, 0));
        due.outside(x, "deals with the other", 0, 1, v -> x.deals(0, v, 0));
        due.outside(x, "deals of things", 0, 15, v -> x.deals(0, 1, v));
        due.outside(y, "deals of things", 0, 255, v -> y.deals(0, 1, v));
        due.refuses(x, Due.BEYOND, "deals(0, 0, 0)", () -> x.deals(0, 0, 0));
        due.refuses(x, Due.BEYOND, "deals(1, 1, 15)", () -> x.deals(1, 1, 15));
    }

    private static void lesser(Due due) {
        due.says(30, "Of all parts that the first one of two can have of a set (the other one has the rest) that with which the lesser of the two WORTHS (each of its own part, to itself) is greatest; of several the least.");
        EnvyRust x = two("9 1 1 1", "9 1 1 1");
        due.leaves(x, "9 and 3", () -> x.lesser(0, 1, 15), 1);
        due.leaves(x, "1 and 2: the least part", () -> x.lesser(0, 1, 14), 2);
        due.leaves(x, "0 in any case", () -> x.lesser(0, 1, 1), 0);
        due.leaves(x, "nothing", () -> x.lesser(0, 1, 0), 0);
        EnvyRust y = two("5 4 3 0", "3 4 5 0");
        due.leaves(y, "5 and 9, 9 and 5: the lesser is the same", () -> y.lesser(0, 1, 7), 1);
        due.leaves(y, "9 and 5 the other way", () -> y.lesser(1, 0, 7), 4);
        y.change(1, 3 + 2, 6);
        due.leaves(y, "5 and 10, 9 and 6: the greater lesser", () -> y.lesser(0, 1, 7), 3);
        y.change(0, 3, 6);
        due.leaves(y, "6 and 10, 10 and 6", () -> y.lesser(0, 1, 7), 1);
        EnvyRust w = Due.town("looker; looker", "thing 0; thing 0; thing 0; thing 0; thing 0; thing 0; thing 0; thing 0");
        due.leaves(w, "four of eight", () -> w.lesser(0, 1, 255), 15);
        due.leaves(w, "three or four of seven", () -> w.lesser(0, 1, 254), 14);
        due.says(30, "BEYOND likewise.");
        due.outside(x, "lesser of the first", 0, 1, v -> x.lesser(v, 0, 0));
        due.outside(x, "lesser of the first", 0, 1, v -> x.lesser(v, 1, 0));
        due.outside(x, "lesser with the other", 0, 1, v -> x.lesser(0, v, 0));
        due.outside(x, "lesser of things", 0, 15, v -> x.lesser(0, 1, v));
        due.outside(w, "lesser of things", 0, 255, v -> w.lesser(0, 1, v));
        due.refuses(x, Due.BEYOND, "lesser(0, 0, 0)", () -> x.lesser(0, 0, 0));
        due.refuses(x, Due.BEYOND, "lesser(1, 1, 15)", () -> x.lesser(1, 1, 15));
    }

    private static void envious(Due due) {
        due.says(31, "How many pairs there are of one and another one whose THINGS (as OWNER) are WORTH more to the first than its own.");
        EnvyRust none = new EnvyRust();
        due.leaves(none, "nobody", none::envious, 0);
        none.person(0, 0);
        due.leaves(none, "one alone", none::envious, 0);
        int[] others = {4, 5, 6};
        for (int liked : others) {
            EnvyRust x = Due.town("looker likes 5 0 0 0; looker likes 0 0 0 0; thing 0 of 0; thing 1 of 1");
            x.change(0, 4, liked);
            due.leaves(x, "5 of its own, " + liked + " of the other's", x::envious, liked > 5 ? 1 : 0);
        }
        EnvyRust y = new EnvyRust();
        for (int i = 0; i < 8; i++) {
            y.person(0, 0);
            y.thing(0, 0);
        }
        due.leaves(y, "nobody owns", y::envious, 0);
        y.forge(0, 4, 7);
        due.leaves(y, "seven want that of one", y::envious, 7);
        y.forge(1, 4, 0);
        due.leaves(y, "six want that of each of two", y::envious, 12);
        for (int i = 2; i < 8; i++) {
            y.forge(i, 4, i - 1);
        }
        due.leaves(y, "each has one", y::envious, 0);
        y.forge(0, 4, 0);
        due.leaves(y, "the last has none, one has two", y::envious, 7 + 6);
        for (int i = 0; i < 8; i++) {
            y.forge(i, 2, 0);
        }
        due.leaves(y, "all is gone", y::envious, 0);
        EnvyRust faulty = Due.town("looker; looker; thing 0 of 0");
        Due.read(faulty, "looker likes 9 9 9 9; thing 1 of 1; thing 0 of 2;");
        due.leaves(faulty, "whoever a fault told isn't there", faulty::envious, 1);
    }

    private static void fits(Due due) {
        due.says(32, "How many numbers (0 to 9) one could LIKE the SORT of a THING, so that its THICK now and behind each DAY further on is as a sheet tells (-1: any).");
        EnvyRust x = Due.town("looker walks 0 likes 0 0 5 0; thing 2 thick 500");
        for (int liked = -1; liked <= 10; liked++) {
            Due.sheet(x, 0, 16, 500, 500 - liked);
            due.leaves(x, "as if liked by " + liked, () -> x.fits(0, 0, 0), liked >= 0 && liked <= 9 ? 1 : 0);
        }
        x.sheet(0, 16, 0);
        due.leaves(x, "no numbers", () -> x.fits(0, 0, 0), 10);
        int[][] rows = {{500, 10}, {499, 0}, {501, 0}, {-1, 10}, {-2, 0}, {0, 0}};
        for (int[] row : rows) {
            Due.sheet(x, 0, 16, row[0]);
            due.leaves(x, "now " + row[0], () -> x.fits(0, 0, 0), row[1]);
        }
        Due.sheet(x, 0, 16, new int[40]);
        for (int i = 0; i < 40; i++) {
            x.write(0, i, 500 - 9 * i);
        }
        due.leaves(x, "40 numbers", () -> x.fits(0, 0, 0), 1);
        int[] last = {148, 149, 150};
        for (int v : last) {
            x.write(0, 39, v);
            due.leaves(x, "the 40th " + v, () -> x.fits(0, 0, 0), v == 149 ? 1 : 0);
        }
        for (int i = 0; i < 39; i++) {
            x.write(0, i, -1);
        }
        x.write(0, 39, 149);
        due.leaves(x, "any but the 40th", () -> x.fits(0, 0, 0), 1);
        x.write(0, 39, -1);
        due.leaves(x, "any", () -> x.fits(0, 0, 0), 10);
        x.forge(0, 2, 9);
        Due.sheet(x, 0, 8, 9, -1, 0);
        due.leaves(x, "gone by two days", () -> x.fits(0, 0, 0), 5);
        Due.sheet(x, 0, 8, 9, 0);
        due.leaves(x, "gone by one day", () -> x.fits(0, 0, 0), 1);
        Due.sheet(x, 0, 8, 9, 0, 0, 0, 0);
        due.leaves(x, "gone for good", () -> x.fits(0, 0, 0), 1);
        due.is("what it likes stays", x.of(0, 5), 5);
    }

    private static void fitsFindings(Due due) {
        EnvyRust x = Due.town("looker; looker; thing 0; thing 0; thing 0");
        x.sheet(0, 8, 0);
        x.sheet(3, 8, 0);
        due.says(32, "BEYOND: no such sheet.");
        due.outside(x, "fits", 0, 3, v -> x.fits(v, 0, 0));
        due.outside(x, "fits", 0, 3, v -> x.fits(v, 2, 3));
        due.says(32, "MISSING.");
        due.refuses(x, Due.MISSING, "fits(1, 0, 0)", () -> x.fits(1, 0, 0));
        due.refuses(x, Due.MISSING, "fits(2, 2, 0)", () -> x.fits(2, 2, 0));
        due.refuses(x, Due.MISSING, "fits(2, -1, 3)", () -> x.fits(2, -1, 3));
        x.sheet(3, 0, 0);
        due.refuses(x, Due.MISSING, "missing again", () -> x.fits(3, 0, 0));
        due.says(32, "BEYOND: no such one, no such THING.");
        due.outside(x, "fits to", 0, 1, v -> x.fits(0, v, 0));
        due.outside(x, "fits for", 0, 2, v -> x.fits(0, 0, v));
        due.says(33, "BEYOND, MISSING, BEYOND likewise.");
        x.sheet(3, 8, 0);
        due.outside(x, "likes", 0, 3, v -> x.likes(v, 0, 0));
        due.outside(x, "likes", 0, 3, v -> x.likes(v, 2, 3));
        due.refuses(x, Due.MISSING, "likes(1, 0, 0)", () -> x.likes(1, 0, 0));
        due.refuses(x, Due.MISSING, "likes(2, 2, 0)", () -> x.likes(2, 2, 0));
        due.refuses(x, Due.MISSING, "likes(2, -1, 3)", () -> x.likes(2, -1, 3));
        due.outside(x, "likes to", 0, 1, v -> x.likes(0, v, 0));
        due.outside(x, "likes for", 0, 2, v -> x.likes(0, 0, v));
    }

    private static void likes(Due due) {
        due.says(33, "The least of them.");
        EnvyRust x = Due.town("looker walks 0 likes 0 0 5 0; thing 2 thick 500");
        for (int liked = 0; liked <= 9; liked++) {
            Due.sheet(x, 0, 16, 500, 500 - liked);
            due.leaves(x, "as if liked by " + liked, () -> x.likes(0, 0, 0), liked);
        }
        Due.sheet(x, 0, 16, 500);
        due.leaves(x, "by any", () -> x.likes(0, 0, 0), 0);
        x.change(0, 0, 1);
        for (int liked = 0; liked <= 4; liked++) {
            Due.sheet(x, 0, 16, 500, 500 - liked);
            due.leaves(x, "as if half by " + liked, () -> x.likes(0, 0, 0), 2 * liked);
        }
        x.forge(0, 2, 9);
        x.change(0, 0, 0);
        Due.sheet(x, 0, 8, 9, -1, 0);
        due.leaves(x, "gone by two days", () -> x.likes(0, 0, 0), 5);
        due.says(33, "NONE.");
        Due.sheet(x, 0, 16, 9, 9 - 10);
        due.leaves(x, "-1 is any", () -> x.likes(0, 0, 0), 0);
        x.forge(0, 2, 500);
        Due.sheet(x, 0, 16, 500, 491);
        due.leaves(x, "by 9", () -> x.likes(0, 0, 0), 9);
        Due.sheet(x, 0, 16, 500, 490);
        due.refuses(x, Due.NONE, "by 10", () -> x.likes(0, 0, 0));
        Due.sheet(x, 0, 16, 500, 501);
        due.refuses(x, Due.NONE, "by -1", () -> x.likes(0, 0, 0));
        Due.sheet(x, 0, 16, 499);
        due.refuses(x, Due.NONE, "not now", () -> x.likes(0, 0, 0));
    }

    private static void strolls(Due due) {
        due.says(34, "n times (1 to 20): for each of PEOPLE by numbers a draw: it is AT the PLACE of its rest by 16; then a DAY: how much THICK all lost, together.");
        // By draws from z 1: places 14, 0, 4, 11, 15, 4, 6, 14, 12, 5, 2, 4.
        EnvyRust x = Due.town("looker walks 0; looker at 9 walks 3; thing 0 at 14; thing 0 at 0; thing 0 at 4");
        due.is("at 14 and at 0", x.strolls(1), 2);
        due.is("14", x.of(0, 1), 14);
        due.is("0 and on by 3", x.of(1, 1), 3);
        due.is("4 and 11, 15 and 4", x.strolls(2), 2);
        due.is("15", x.of(0, 1), 15);
        due.is("4 and on by 3", x.of(1, 1), 7);
        due.is("day", x.now(0), 3);
        due.is("6 and 14, 12 and 5, 2 and 4", x.strolls(3), 2);
        due.is("left", x.now(2), 300 - 6);
        EnvyRust y = Due.town("looker walks 15; thing 0 at 14 thick 0; thing 0 at 14 thick 1; thing 0 at 3 thick 50 on 1");
        due.is("what falls is lost, what is gone isn't", y.strolls(1), 51);
        due.is("14 and on by 15", y.of(0, 1), 13);
        EnvyRust z = new EnvyRust();
        for (int i = 0; i < 8; i++) {
            z.person(0, 3);
            z.change(i, 2, 0);
        }
        int[] places = {14, 0, 4, 11, 15, 4, 6, 14};
        due.is("without things", z.strolls(1), 0);
        for (int i = 0; i < 8; i++) {
            due.is("where number " + i + " is", z.of(i, 1), places[i]);
        }
        due.is("eight draws", z.count(6), -1661227463);
        due.is("20 days", z.strolls(20), 0);
        due.is("day", z.now(0), 21);
        EnvyRust none = Due.town("thing 0");
        due.is("of nobody", none.strolls(20), 0);
        due.is("no draw", none.count(6), 1);
        due.is("day", none.now(0), 20);
        due.says(34, "BEYOND.");
        due.outside(x, "strolls", 1, 20, x::strolls);
        due.outside(none, "strolls", 1, 20, none::strolls);
    }

    private static void strollsTooFar(Due due) {
        due.says(34, "STATE: DAY would be above 99999.");
        int[] days = {1, 2, 20};
        for (int n : days) {
            EnvyRust x = Due.town("looker; thing 0");
            for (int i = 0; i < 1666; i++) {
                x.go(60);
            }
            x.go(40 - 1 - n);
            x.forge(0, 2, 999);
            EnvyRust y = Due.town("looker; thing 0");
            for (int i = 0; i < 1666; i++) {
                y.go(60);
            }
            y.go(40 - n);
            y.forge(0, 2, 999);
            due.refuses(y, Due.STATE, "one day too far by " + n, () -> y.strolls(n));
            due.is("just not too far by " + n, x.strolls(n), 999 - x.now(2));
            due.is("the last day", x.now(0), 99999);
            due.refuses(x, Due.STATE, "on the last day", () -> x.strolls(1));
        }
    }

    private static void odds(Due due) {
        due.says(35, "The odds that n (0 to 14) such draws are all of PLACES AT which there is no THING (GONE ones count as there): a fraction in lowest terms: above (what 0), below the line (1).");
        EnvyRust x = new EnvyRust();
        long[] above = {1, 15, 7, 13, 3, 11, 5, 9, 1};
        long[] below = {1, 16, 8, 16, 4, 16, 8, 16, 2};
        for (int things = 0; things <= 8; things++) {
            int t = things;
            long a = 1;
            long b = 1;
            for (int n = 0; n <= 14; n++) {
                int draws = n;
                due.leaves(x, "odds(" + n + ", 0) with " + t, () -> x.odds(draws, 0), a);
                due.leaves(x, "odds(" + n + ", 1) with " + t, () -> x.odds(draws, 1), b);
                a *= above[t];
                b *= below[t];
            }
            if (things < 8) {
                x.thing(0, 15 - 2 * things);
            }
        }
        due.is("9/16 of 14, above", Due.town("thing0;thing0at1;thing0at2;thing0at3;thing0at4;thing0at5;thing0at15").odds(14, 0), 22876792454961L);
        due.is("9/16 of 14, below", Due.town("thing0;thing0at1;thing0at2;thing0at3;thing0at4;thing0at5;thing0at15").odds(14, 1), 72057594037927936L);
        EnvyRust y = Due.town("thing 0 at 3; thing 0 at 3; thing 0 at 0 thick 0; thing 0 at 15");
        due.is("two at one, one gone", y.odds(1, 0), 13);
        EnvyRust faulty = Due.town("thing 0 at 3");
        Due.read(faulty, "thing 0 at 4;");
        due.is("what a fault told isn't there", faulty.odds(1, 0), 15);
        due.says(35, "BEYOND.");
        due.outside(x, "odds above", 0, 14, n -> x.odds(n, 0));
        due.outside(x, "odds below", 0, 14, n -> x.odds(n, 1));
        due.outside(x, "odds of what", 0, 1, what -> x.odds(0, what));
        due.outside(x, "odds of what", 0, 1, what -> x.odds(14, what));
    }

    private static void seed(Due due) {
        due.says(36, "z becomes v: what it was.");
        EnvyRust x = Due.town("looker walks 0");
        int before = 1;
        int[] seeds = {0, -1, 1, LEAST, MOST, -1000001, -1000000, 77};
        for (int v : seeds) {
            due.is("seed(" + v + ")", x.seed(v), before);
            due.is("count(6)", x.count(6), v);
            before = v;
        }
        due.is("no finding", x.status(-1), 0);
        x.seed(1);
        x.strolls(1);
        due.is("the first draw again", x.of(0, 1), 14);
        x.seed(1);
        x.strolls(1);
        due.is("the first draw again", x.of(0, 1), 14);
    }
}
