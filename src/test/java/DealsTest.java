/** Promises 23 to 36: what hangs, deals, what was worn, strollers. */
public final class DealsTest {
    private static final int LEAST = Integer.MIN_VALUE;
    private static final int MOST = Integer.MAX_VALUE;

    public static void main(String[] args) {
        Due due = new Due();
        hangs(due);
        keystone(due);
        fells(due);
        worth(due);
        deal(due);
        lesser(due);
        envious(due);
        fits(due);
        likes(due);
        strolls(due);
        odds(due);
        seed(due);
        due.end();
    }

    /** 1 and 3 on 0, 2 on 1, 5 on 4. */
    private static EnvyRust hung() {
        return Due.town("thing 0; thing 0 on 0; thing 0 on 1; thing 0 on 0; thing 0; thing 0 on 4");
    }

    private static void hangs(Due due) {
        EnvyRust x = hung();
        int[] falling = {15, 6, 4, 8, 48, 32};
        int[] depth = {0, 1, 2, 1, 0, 1};
        for (int thing = 0; thing < 6; thing++) {
            int t = thing;
            due.promise(23, "fallsWith");
            due.leaves(x, "fallsWith(" + t + ")", () -> x.fallsWith(t), falling[t]);
            due.promise(24, "depth");
            due.leaves(x, "depth(" + t + ")", () -> x.depth(t), depth[t]);
        }
        due.promise(23, "fallsWith");
        due.refuses(x, Due.BEYOND, "fallsWith(6)", () -> x.fallsWith(6));
        due.refuses(x, Due.BEYOND, "fallsWith(-1)", () -> x.fallsWith(-1));
        due.refuses(x, Due.BEYOND, "fallsWith(MOST)", () -> x.fallsWith(MOST));
        due.promise(24, "depth");
        due.refuses(x, Due.BEYOND, "depth(6)", () -> x.depth(6));
        due.refuses(x, Due.BEYOND, "depth(-1)", () -> x.depth(-1));
        due.refuses(x, Due.BEYOND, "depth(LEAST)", () -> x.depth(LEAST));
        EnvyRust y = new EnvyRust();
        for (int i = 0; i < 8; i++) {
            y.thing(0, 0);
        }
        for (int i = 0; i < 7; i++) {
            y.forge(i, 5, i + 1);
        }
        due.is("depth(0) of a chain of 8", y.depth(0), 7);
        due.promise(23, "fallsWith");
        due.is("fallsWith(7) of a chain of 8", y.fallsWith(7), 255);
        due.is("fallsWith(0) of a chain of 8", y.fallsWith(0), 1);
        y.forge(7, 2, 0);
        due.is("also what isn't gone yet", y.fallsWith(7), 255);
    }

    private static void keystone(Due due) {
        due.promise(25, "keystone");
        EnvyRust none = new EnvyRust();
        due.refuses(none, Due.NONE, "keystone()", none::keystone);
        EnvyRust x = hung();
        due.leaves(x, "keystone()", x::keystone, 0);
        x.forge(3, 5, 4);
        due.leaves(x, "the least of two", x::keystone, 0);
        x.forge(1, 5, -1);
        due.leaves(x, "keystone()", x::keystone, 4);
        EnvyRust y = Due.town("thing 0; thing 0; thing 0");
        due.leaves(y, "each alone", y::keystone, 0);
    }

    private static void fells(Due due) {
        due.promise(26, "fells");
        EnvyRust x = new EnvyRust();
        due.leaves(x, "fells() of none", x::fells, 0);
        EnvyRust y = hung();
        due.leaves(y, "fells()", y::fells, 1 | 16);
        y.forge(3, 5, -1);
        due.leaves(y, "fells()", y::fells, 1 | 8 | 16);
        y.forge(0, 5, 5);
        due.leaves(y, "fells()", y::fells, 8 | 16);
        y.thing(0, 0);
        y.thing(0, 0);
        due.leaves(y, "fells() of 8", y::fells, 8 | 16 | 64 | 128);
        y.forge(3, 2, 0);
        due.leaves(y, "what is gone must be among them, too", y::fells, 8 | 16 | 64 | 128);
    }

    private static void worth(Due due) {
        due.promise(27, "worth");
        EnvyRust x = Due.town("looker likes 5 1 0 0; rival likes 3 2 0 0; beggar likes 9 9 9 9; thief likes 4 9 0 0",
            "thing 0; thing 1 of 1; thing 0 paint 2 of 0; thing 1 thick 0; thing 0 thick 400 of 1");
        int[] first = {5, 3, 0, 2};
        int[] all = {5 + 1 + 3 + 5, 3 + 2 + 1 + 3, 0, 2 + 7 + 0 + 5};
        for (int person = 0; person < 4; person++) {
            int p = person;
            due.leaves(x, "worth(" + p + ", 0)", () -> x.worth(p, 0), 0);
            due.leaves(x, "worth(" + p + ", 1)", () -> x.worth(p, 1), first[p]);
            due.leaves(x, "worth(" + p + ", 8), gone", () -> x.worth(p, 8), 0);
            due.leaves(x, "worth(" + p + ", 31)", () -> x.worth(p, 31), all[p]);
        }
        due.is("a rival's own", x.worth(1, 2), 2);
        due.refuses(x, Due.BEYOND, "worth(4, 0)", () -> x.worth(4, 0));
        due.refuses(x, Due.BEYOND, "worth(-1, 0)", () -> x.worth(-1, 0));
        due.refuses(x, Due.BEYOND, "worth(0, 32)", () -> x.worth(0, 32));
        due.refuses(x, Due.BEYOND, "worth(0, -1)", () -> x.worth(0, -1));
        due.refuses(x, Due.BEYOND, "worth(0, LEAST)", () -> x.worth(0, LEAST));
        x.thing(0, 0);
        due.is("worth(0, 32) now", x.worth(0, 32), 5);
        EnvyRust y = new EnvyRust();
        y.person(0, 0);
        for (int i = 0; i < 8; i++) {
            y.thing(i % 4, 0);
        }
        due.is("worth(0, 255)", y.worth(0, 255), 8);
        due.refuses(y, Due.BEYOND, "worth(0, 256)", () -> y.worth(0, 256));
    }

    private static void deal(Due due) {
        EnvyRust x = Due.town("looker likes 6 4 1 1; looker likes 2 5 2 2; looker likes 6 4 1 1",
            "thing 0; thing 1; thing 2; thing 3; thing 0 thick 0");
        // Of 12 and 11 in all each needs 6: the first one can't do without 0, the other one without 1.
        due.promise(28, "deal");
        due.leaves(x, "deal(0, 1, 15)", () -> x.deal(0, 1, 15), 1);
        due.leaves(x, "deal(1, 0, 15)", () -> x.deal(1, 0, 15), 6);
        due.leaves(x, "deal(0, 1, 0)", () -> x.deal(0, 1, 0), 0);
        due.leaves(x, "of what is gone nobody has less", () -> x.deal(0, 1, 16), 0);
        due.refuses(x, Due.NONE, "one thing that both want", () -> x.deal(0, 1, 1));
        due.leaves(x, "each what it likes", () -> x.deal(0, 1, 3), 1);
        due.leaves(x, "alike", () -> x.deal(0, 2, 15), 1);
        due.leaves(x, "parts of the set alone", () -> x.deal(0, 2, 12), 4);
        due.promise(29, "deals");
        due.leaves(x, "deals(0, 1, 15)", () -> x.deals(0, 1, 15), 3);
        due.leaves(x, "deals(1, 0, 15)", () -> x.deals(1, 0, 15), 3);
        due.leaves(x, "deals(0, 1, 0)", () -> x.deals(0, 1, 0), 1);
        due.leaves(x, "deals(0, 1, 16)", () -> x.deals(0, 1, 16), 2);
        due.leaves(x, "deals(0, 1, 1)", () -> x.deals(0, 1, 1), 0);
        due.leaves(x, "deals(0, 1, 3)", () -> x.deals(0, 1, 3), 1);
        due.leaves(x, "deals(0, 2, 15)", () -> x.deals(0, 2, 15), 2);
        due.leaves(x, "deals(0, 2, 12)", () -> x.deals(0, 2, 12), 2);
        int[][] beyond = {{0, 0, 0}, {3, 0, 0}, {0, 3, 0}, {-1, 0, 0}, {0, -1, 0}, {0, 1, -1}, {0, 1, 32}, {1, 1, 64}, {0, 1, MOST}};
        for (int[] args : beyond) {
            String with = "(" + args[0] + ", " + args[1] + ", " + args[2] + ")";
            due.promise(28, "deal");
            due.refuses(x, Due.BEYOND, "deal" + with, () -> x.deal(args[0], args[1], args[2]));
            due.promise(29, "deals");
            due.refuses(x, Due.BEYOND, "deals" + with, () -> x.deals(args[0], args[1], args[2]));
            due.promise(30, "lesser");
            due.refuses(x, Due.BEYOND, "lesser" + with, () -> x.lesser(args[0], args[1], args[2]));
        }
        due.promise(28, "deal");
        x.forge(0, 4, 1);
        due.leaves(x, "whose they are is nothing to it", () -> x.deal(0, 1, 15), 1);
    }

    private static void lesser(Due due) {
        due.promise(30, "lesser");
        EnvyRust x = Due.town("looker likes 6 4 1 1; looker likes 2 5 2 2; modest likes 9 1 1 1",
            "thing 0; thing 1; thing 2; thing 3; thing 0 thick 0");
        due.leaves(x, "7 and 7", () -> x.lesser(0, 1, 15), 5);
        due.leaves(x, "7 and 7", () -> x.lesser(1, 0, 15), 6);
        due.leaves(x, "lesser(0, 1, 0)", () -> x.lesser(0, 1, 0), 0);
        due.leaves(x, "one alone: 0 in any case", () -> x.lesser(0, 1, 1), 0);
        due.leaves(x, "lesser(0, 1, 3)", () -> x.lesser(0, 1, 3), 1);
        due.leaves(x, "lesser(0, 1, 12)", () -> x.lesser(0, 1, 12), 4);
        due.leaves(x, "lesser(0, 1, 31)", () -> x.lesser(0, 1, 31), 5);
        due.leaves(x, "4 and 4", () -> x.lesser(0, 2, 15), 2);
        due.leaves(x, "lesser(2, 0, 6)", () -> x.lesser(2, 0, 6), 0);
    }

    private static void envious(Due due) {
        due.promise(31, "envious");
        EnvyRust none = new EnvyRust();
        due.leaves(none, "envious() of nobody", none::envious, 0);
        EnvyRust x = Due.town("looker likes 6 4 1 1; looker likes 2 5 2 2; child likes 1 1 1 1");
        due.leaves(x, "nobody owns", x::envious, 0);
        Due.read(x, "thing 0 of 0; thing 1 of 0; thing 1");
        due.leaves(x, "two want what the first has", x::envious, 2);
        x.forge(2, 4, 1);
        due.leaves(x, "one wants more, one that of both", x::envious, 1 + 2);
        x.forge(1, 4, -1);
        due.leaves(x, "one wants that of both", x::envious, 2);
        x.forge(0, 4, 1);
        x.forge(2, 4, 0);
        due.leaves(x, "both would change", x::envious, 2 + 2);
        x.forge(2, 2, 0);
        due.leaves(x, "what is gone is worth nothing", x::envious, 2);
    }

    private static void fits(Due due) {
        due.promise(32, "fits");
        EnvyRust x = Due.town("modest walks 0 likes 0 5 0 0; looker at 3 walks 0",
            "thing 1 thick 20; thing 1 at 3 thick 9; thing 0 at 3 thick 8 on 0");
        due.refuses(x, Due.BEYOND, "fits(4, 9, 9)", () -> x.fits(4, 9, 9));
        due.refuses(x, Due.BEYOND, "fits(-1, 0, 0)", () -> x.fits(-1, 0, 0));
        due.refuses(x, Due.MISSING, "fits(0, 0, 0)", () -> x.fits(0, 0, 0));
        due.refuses(x, Due.MISSING, "fits(0, 9, 9)", () -> x.fits(0, 9, 9));
        x.sheet(0, 16, 0);
        due.refuses(x, Due.BEYOND, "fits(0, 2, 0)", () -> x.fits(0, 2, 0));
        due.refuses(x, Due.BEYOND, "fits(0, -1, 0)", () -> x.fits(0, -1, 0));
        due.refuses(x, Due.BEYOND, "fits(0, 0, 3)", () -> x.fits(0, 0, 3));
        due.refuses(x, Due.BEYOND, "fits(0, 0, -1)", () -> x.fits(0, 0, -1));
        due.leaves(x, "no number: all fit", () -> x.fits(0, 0, 0), 10);
        fit(due, x, 10, 20);
        fit(due, x, 0, 19);
        fit(due, x, 2, 20, 18);
        fit(due, x, 2, 20, 20);
        fit(due, x, 0, 20, 15);
        fit(due, x, 2, 20, -1, 12);
        fit(due, x, 10, -1, -1, -1);
        fit(due, x, 2, -1, -1, -1, 8);
        fit(due, x, 4, -1, -1, -1, -1, -1, -1, -1, 0);
        fit(due, x, 0, 20, 18, 17);
        fit(due, x, 0, 20, 18, 16, -2);
        Due.sheet(x, 1, 16, 9, 8, 7);
        due.leaves(x, "by whom it isn't worn", () -> x.fits(1, 0, 1), 10);
        due.leaves(x, "fits(1, 1, 1)", () -> x.fits(1, 1, 1), 1);
        Due.sheet(x, 2, 32, 8, 7, 6, 5, 0);
        due.leaves(x, "it falls", () -> x.fits(2, 0, 2), 0);
        x.forge(0, 0, 0);
        Due.sheet(x, 2, 32, 8, 7, -1, -1, -1, 0);
        due.leaves(x, "it falls with what is of its own sort", () -> x.fits(2, 0, 2), 2);
        due.promise(33, "likes");
        due.leaves(x, "likes likewise", () -> x.likes(2, 0, 2), 8);
        due.promise(32, "fits");
        Due.sheet(x, 3, 8, new int[40]);
        x.forge(1, 2, 0);
        due.leaves(x, "40 numbers of 8 bits", () -> x.fits(3, 1, 1), 10);
    }

    private static void fit(Due due, EnvyRust x, int want, int... numbers) {
        Due.sheet(x, 0, 16, numbers);
        due.leaves(x, "fits(0, 0, 0)", () -> x.fits(0, 0, 0), want);
    }

    private static void likes(Due due) {
        due.promise(33, "likes");
        EnvyRust x = Due.town("modest walks 0 likes 0 5 0 0; thing 1 thick 20");
        due.refuses(x, Due.BEYOND, "likes(4, 9, 9)", () -> x.likes(4, 9, 9));
        due.refuses(x, Due.BEYOND, "likes(-1, 0, 0)", () -> x.likes(-1, 0, 0));
        due.refuses(x, Due.MISSING, "likes(3, 9, 9)", () -> x.likes(3, 9, 9));
        Due.sheet(x, 3, 8, 20, 17);
        due.refuses(x, Due.BEYOND, "likes(3, 1, 0)", () -> x.likes(3, 1, 0));
        due.refuses(x, Due.BEYOND, "likes(3, 0, 1)", () -> x.likes(3, 0, 1));
        due.leaves(x, "likes(3, 0, 0)", () -> x.likes(3, 0, 0), 6);
        x.write(3, 1, 16);
        due.leaves(x, "likes(3, 0, 0)", () -> x.likes(3, 0, 0), 8);
        x.write(3, 1, 20);
        due.leaves(x, "likes(3, 0, 0)", () -> x.likes(3, 0, 0), 0);
        x.write(3, 1, 15);
        due.refuses(x, Due.NONE, "likes(3, 0, 0)", () -> x.likes(3, 0, 0));
        x.change(0, 0, 0);
        x.write(3, 1, 11);
        due.leaves(x, "9 at most", () -> x.likes(3, 0, 0), 9);
        x.write(3, 1, 10);
        due.refuses(x, Due.NONE, "10 is too much", () -> x.likes(3, 0, 0));
    }

    private static int drawn(int z) {
        return z * 1103515245 + 12345;
    }

    private static void strolls(Due due) {
        due.promise(34, "strolls");
        EnvyRust none = new EnvyRust();
        due.refuses(none, Due.BEYOND, "strolls(0)", () -> none.strolls(0));
        due.refuses(none, Due.BEYOND, "strolls(21)", () -> none.strolls(21));
        due.refuses(none, Due.BEYOND, "strolls(-1)", () -> none.strolls(-1));
        due.refuses(none, Due.BEYOND, "strolls(MOST)", () -> none.strolls(MOST));
        due.is("strolls(20) of nobody", none.strolls(20), 0);
        due.is("is 20 days", none.now(0), 20);
        due.is("and no draw", none.count(6), 1);
        EnvyRust x = Due.town("looker at 3 walks 2 likes 4 0 0 0; child at 9 walks 15 likes 3 0 0 0");
        int first = drawn(1);
        int second = drawn(first);
        int there = (first >>> 8) % 16;
        int also = (second >>> 8) % 16;
        x.thing(0, there);
        x.thing(0, also);
        x.thing(1, also);
        int lost = there == also ? 2 * (4 + 6) : 4 + 6;
        due.is("strolls(1)", x.strolls(1), lost);
        due.is("the first goes on", x.of(0, 1), (there + 2) % 16);
        due.is("the second goes on", x.of(1, 1), (also + 15) % 16);
        due.is("z", x.count(6), second);
        due.is("DAY", x.now(0), 1);
        int before = x.now(2);
        int all = x.strolls(20);
        due.is("all lost, together", all, before - x.now(2));
        due.is("DAY", x.now(0), 21);
        int z = second;
        for (int i = 0; i < 40; i++) {
            z = drawn(z);
        }
        due.is("z", x.count(6), z);
        due.is("the second by the last draw", x.of(1, 1), ((z >>> 8) % 16 + 15) % 16);
        EnvyRust y = Due.town("looker; thing 0 thick 1; thing 0 thick 50 on 0; thing 0 thick 0; thing 0 thick 9 on 2");
        y.seed(-1);
        int place = (drawn(-1) >>> 8) % 16;
        y.forge(0, 1, place);
        y.forge(1, 1, (place + 8) % 16);
        y.forge(3, 1, (place + 8) % 16);
        due.is("what falls is lost, too", y.strolls(1), 60);
    }

    private static void odds(Due due) {
        due.promise(35, "odds");
        EnvyRust x = new EnvyRust();
        due.leaves(x, "odds(14, 0)", () -> x.odds(14, 0), 1);
        due.leaves(x, "odds(14, 1)", () -> x.odds(14, 1), 1);
        long[] above = {15, 7, 13, 3, 11, 5, 9, 1};
        long[] below = {16, 8, 16, 4, 16, 8, 16, 2};
        for (int i = 0; i < 8; i++) {
            int t = x.thing(0, 2 * i);
            due.leaves(x, "odds(1, 0) with " + (t + 1), () -> x.odds(1, 0), above[t]);
            due.leaves(x, "odds(1, 1) with " + (t + 1), () -> x.odds(1, 1), below[t]);
        }
        due.leaves(x, "odds(14, 0) by 1/2", () -> x.odds(14, 0), 1);
        due.leaves(x, "odds(14, 1) by 1/2", () -> x.odds(14, 1), 16384);
        x.forge(0, 1, 2);
        due.leaves(x, "odds(0, 0)", () -> x.odds(0, 0), 1);
        due.leaves(x, "odds(0, 1)", () -> x.odds(0, 1), 1);
        due.leaves(x, "odds(2, 0)", () -> x.odds(2, 0), 81);
        due.leaves(x, "odds(2, 1)", () -> x.odds(2, 1), 256);
        due.leaves(x, "odds(14, 0)", () -> x.odds(14, 0), 22876792454961L);
        due.leaves(x, "odds(14, 1)", () -> x.odds(14, 1), 72057594037927936L);
        x.forge(5, 2, 0);
        due.leaves(x, "what is gone counts as there", () -> x.odds(1, 0), 9);
        for (int i = 0; i < 7; i++) {
            x.forge(i, 1, 14);
        }
        due.leaves(x, "all at one", () -> x.odds(3, 0), 3375);
        due.refuses(x, Due.BEYOND, "odds(15, 0)", () -> x.odds(15, 0));
        due.refuses(x, Due.BEYOND, "odds(-1, 0)", () -> x.odds(-1, 0));
        due.refuses(x, Due.BEYOND, "odds(1, 2)", () -> x.odds(1, 2));
        due.refuses(x, Due.BEYOND, "odds(1, -1)", () -> x.odds(1, -1));
    }

    private static void seed(Due due) {
        due.promise(36, "seed");
        EnvyRust x = new EnvyRust();
        due.is("seed(LEAST)", x.seed(LEAST), 1);
        due.is("count(6)", x.count(6), LEAST);
        due.is("seed(-1000001)", x.seed(-1000001), LEAST);
        due.is("count(6)", x.count(6), -1000001);
        due.is("seed(-1000007)", x.seed(-1000007), -1000001);
        due.is("seed(5)", x.seed(5), -1000007);
        due.is("none of these is a finding", x.status(-1), 0);
        x.person(0, 0);
        x.strolls(1);
        due.is("of(0, 1)", x.of(0, 1), ((drawn(5) >>> 8) % 16 + 1) % 16);
    }
}
