import java.util.ArrayList;
import java.util.List;
import java.util.function.Supplier;
import java.util.function.ToLongFunction;

/** What Terms say of findings: which they are, in which order they are asked, that nothing changes. */
public final class FindingsTest {
    private static final int LEAST = Integer.MIN_VALUE;
    private static final int MOST = Integer.MAX_VALUE;

    /** A call that answers a finding on each object that its maker makes. */
    private static final class Refused {
        private final Supplier<EnvyRust> maker;
        private final int finding;
        private final String call;
        private final ToLongFunction<EnvyRust> act;

        private Refused(Supplier<EnvyRust> maker, int finding, String call, ToLongFunction<EnvyRust> act) {
            this.maker = maker;
            this.finding = finding;
            this.call = call;
            this.act = act;
        }
    }

    private static final List<Refused> REFUSED = new ArrayList<>();

    public static void main(String[] args) {
        Due due = new Due();
        calls();
        values(due);
        anyZ(due);
        order(due);
        nothingChanges(due);
        due.end();
    }

    private static void refused(Supplier<EnvyRust> maker, int finding, String call, ToLongFunction<EnvyRust> act) {
        REFUSED.add(new Refused(maker, finding, call, act));
    }

    private static EnvyRust none() {
        EnvyRust x = new EnvyRust();
        x.sheet(0, 8, 2);
        x.sheet(1, 16, 3);
        Due.feed(x, "child");
        return x;
    }

    /** 3 people, 3 things (2 on 1 on 0), spots 0 and 9, sheets 0 to 2, a tape, an image, some days. */
    private static EnvyRust some() {
        EnvyRust x = Due.town("looker likes 5 5 5 5; rival at 15 likes 2 3 4 5; modest at 3 walks 0 likes 9 9 9 9", "thing 0; thing 1 at 3 on 0; thing 2 at 15 of 1 on 1");
        x.hold(0, 0);
        x.hold(9, 2);
        x.image();
        x.seed(77);
        x.go(3);
        x.thing(3, 3);
        x.forge(3, 2, 999);
        Due.sheet(x, 0, 8, 1, 2, 3);
        Due.sheet(x, 1, 16, 5, 6, 7, 999);
        x.sheet(2, 8, 40);
        x.write(2, 39, 9);
        Due.feed(x, "child at 9");
        return x;
    }

    /** 8 people, 8 things, one on the other, 120 bytes on the tape. */
    private static EnvyRust full() {
        EnvyRust x = new EnvyRust();
        for (int i = 0; i < 8; i++) {
            x.person(i % 7, i);
            x.change(i, 3, i);
            x.thing(i % 4, 15 - i);
            x.forge(i, 4, (i + 1) % 8);
            x.forge(i, 5, i - 1);
            x.hold(i, i);
        }
        x.image();
        x.go(1);
        x.sheet(3, 32, 8);
        for (int i = 0; i < 8; i++) {
            x.write(3, i, 100 * i);
        }
        for (int i = 0; i < 30; i++) {
            x.feed(0x20202020, 4);
        }
        return x;
    }

    /** On the last day but one. */
    private static EnvyRust late() {
        EnvyRust x = some();
        for (int i = 0; i < 1666; i++) {
            x.go(60);
        }
        x.go(99998 - x.now(0));
        return x;
    }

    private static void calls() {
        callsOfThings();
        callsOfDays();
        callsOfDeals();
        callsOfSheets();
    }

    private static void callsOfThings() {
        refused(FindingsTest::some, Due.BEYOND, "thing(-1, 0)", x -> x.thing(-1, 0));
        refused(FindingsTest::some, Due.BEYOND, "thing(4, 0)", x -> x.thing(4, 0));
        refused(FindingsTest::some, Due.BEYOND, "thing(0, 16)", x -> x.thing(0, 16));
        refused(FindingsTest::full, Due.FULL, "thing(0, 0)", x -> x.thing(0, 0));
        refused(FindingsTest::some, Due.BEYOND, "thingOf(4, 0)", x -> x.thingOf(4, 0));
        refused(FindingsTest::some, Due.BEYOND, "thingOf(0, 7)", x -> x.thingOf(0, 7));
        int[][] forged = {{4, 0, 0}, {-1, 0, 0}, {0, -1, 0}, {0, 6, 0}, {0, 0, 4}, {0, 1, 16}, {0, 2, 1000}, {0, 3, 10}, {0, 4, 3}, {0, 5, 4}, {0, 5, 0},
            {0, 0, -1}, {0, 1, -1}, {0, 2, -1}, {0, 3, -1}, {0, 4, -2}, {0, 5, -2}};
        for (int[] f : forged) {
            refused(FindingsTest::some, Due.BEYOND, "forge(" + f[0] + ", " + f[1] + ", " + f[2] + ")", x -> x.forge(f[0], f[1], f[2]));
        }
        refused(FindingsTest::some, Due.STATE, "forge(0, 5, 1)", x -> x.forge(0, 5, 1));
        refused(FindingsTest::some, Due.STATE, "forge(0, 5, 2)", x -> x.forge(0, 5, 2));
        refused(FindingsTest::full, Due.STATE, "forge(0, 5, 7)", x -> x.forge(0, 5, 7));
        refused(FindingsTest::some, Due.BEYOND, "person(-1, 0)", x -> x.person(-1, 0));
        refused(FindingsTest::some, Due.BEYOND, "person(7, 0)", x -> x.person(7, 0));
        refused(FindingsTest::some, Due.BEYOND, "person(0, -1)", x -> x.person(0, -1));
        refused(FindingsTest::full, Due.FULL, "person(0, 0)", x -> x.person(0, 0));
        refused(FindingsTest::some, Due.BEYOND, "of(3, 0)", x -> x.of(3, 0));
        refused(FindingsTest::some, Due.BEYOND, "of(0, 8)", x -> x.of(0, 8));
        int[][] changed = {{3, 0, 0}, {-1, 0, 0}, {0, -1, 0}, {0, 7, 0}, {0, 0, 7}, {0, 1, 16}, {0, 2, 16}, {0, 3, 10}, {0, 6, 10}, {0, 0, -1}, {0, 2, -1}, {0, 4, -1}};
        for (int[] c : changed) {
            refused(FindingsTest::some, Due.BEYOND, "change(" + c[0] + ", " + c[1] + ", " + c[2] + ")", x -> x.change(c[0], c[1], c[2]));
        }
        refused(FindingsTest::some, Due.BEYOND, "envy(3, 0)", x -> x.envy(3, 0));
        refused(FindingsTest::some, Due.BEYOND, "envy(0, 4)", x -> x.envy(0, 4));
    }

    private static void callsOfDays() {
        refused(FindingsTest::some, Due.BEYOND, "go(0)", x -> x.go(0));
        refused(FindingsTest::some, Due.BEYOND, "go(61)", x -> x.go(61));
        refused(FindingsTest::late, Due.STATE, "go(2)", x -> x.go(2));
        refused(FindingsTest::some, Due.BEYOND, "now(5)", x -> x.now(5));
        refused(FindingsTest::some, Due.BEYOND, "ahead(4, 0)", x -> x.ahead(4, 0));
        refused(FindingsTest::some, Due.BEYOND, "ahead(0, 101)", x -> x.ahead(0, 101));
        refused(FindingsTest::some, Due.BEYOND, "lasts(4)", x -> x.lasts(4));
        refused(FindingsTest::none, Due.BEYOND, "lasts(0)", x -> x.lasts(0));
        refused(FindingsTest::some, Due.NONE, "lasts(3)", x -> x.lasts(3));
        refused(FindingsTest::some, Due.BEYOND, "gone(101)", x -> x.gone(101));
        refused(FindingsTest::some, Due.BEYOND, "worn(101)", x -> x.worn(101));
        refused(FindingsTest::some, Due.BEYOND, "sees(3, 0)", x -> x.sees(3, 0));
        refused(FindingsTest::some, Due.BEYOND, "sees(0, 4)", x -> x.sees(0, 4));
        refused(FindingsTest::some, Due.NONE, "sees(2, 0)", x -> x.sees(2, 0));
        refused(FindingsTest::some, Due.BEYOND, "kindFor(0, 61)", x -> x.kindFor(0, 61));
        refused(FindingsTest::some, Due.BEYOND, "walkFor(0, 61)", x -> x.walkFor(0, 61));
        refused(FindingsTest::some, Due.BEYOND, "placeFor(0, 61)", x -> x.placeFor(0, 61));
        refused(FindingsTest::some, Due.BEYOND, "ownerFor(0, 61)", x -> x.ownerFor(0, 61));
        refused(() -> Due.town("thing 0"), Due.NONE, "ownerFor(0, 60)", x -> x.ownerFor(0, 60));
        refused(FindingsTest::some, Due.BEYOND, "worst(61)", x -> x.worst(61));
        refused(FindingsTest::none, Due.NONE, "worst(60)", x -> x.worst(60));
        refused(FindingsTest::some, Due.BEYOND, "paint(9, 0)", x -> x.paint(9, 0));
        refused(FindingsTest::some, Due.BEYOND, "paint(0, 61)", x -> x.paint(0, 61));
        refused(FindingsTest::some, Due.BEYOND, "needs(0, 61)", x -> x.needs(0, 61));
        refused(() -> Due.town("thing 0 thick 0"), Due.NONE, "needs(0, 0)", x -> x.needs(0, 0));
        refused(FindingsTest::some, Due.BEYOND, "fallsWith(4)", x -> x.fallsWith(4));
        refused(FindingsTest::some, Due.BEYOND, "depth(4)", x -> x.depth(4));
        refused(FindingsTest::none, Due.NONE, "keystone()", x -> x.keystone());
    }

    private static void callsOfDeals() {
        refused(FindingsTest::some, Due.BEYOND, "worth(3, 0)", x -> x.worth(3, 0));
        refused(FindingsTest::some, Due.BEYOND, "worth(0, 16)", x -> x.worth(0, 16));
        refused(FindingsTest::full, Due.BEYOND, "worth(0, 256)", x -> x.worth(0, 256));
        refused(FindingsTest::some, Due.BEYOND, "deal(0, 0, 0)", x -> x.deal(0, 0, 0));
        refused(FindingsTest::some, Due.NONE, "deal(0, 2, 8)", x -> x.deal(0, 2, 8));
        refused(FindingsTest::some, Due.BEYOND, "deals(0, 1, 16)", x -> x.deals(0, 1, 16));
        refused(FindingsTest::some, Due.BEYOND, "lesser(0, 3, 0)", x -> x.lesser(0, 3, 0));
        refused(FindingsTest::some, Due.BEYOND, "fits(4, 0, 0)", x -> x.fits(4, 0, 0));
        refused(FindingsTest::some, Due.MISSING, "fits(3, 0, 0)", x -> x.fits(3, 0, 0));
        refused(FindingsTest::some, Due.BEYOND, "fits(0, 3, 0)", x -> x.fits(0, 3, 0));
        refused(FindingsTest::some, Due.BEYOND, "likes(0, 0, 4)", x -> x.likes(0, 0, 4));
        refused(FindingsTest::some, Due.MISSING, "likes(3, 0, 0)", x -> x.likes(3, 0, 0));
        refused(FindingsTest::some, Due.NONE, "likes(0, 0, 3)", x -> x.likes(0, 0, 3));
        refused(FindingsTest::some, Due.BEYOND, "strolls(0)", x -> x.strolls(0));
        refused(FindingsTest::some, Due.BEYOND, "strolls(21)", x -> x.strolls(21));
        refused(FindingsTest::late, Due.STATE, "strolls(2)", x -> x.strolls(2));
        refused(FindingsTest::some, Due.BEYOND, "odds(15, 0)", x -> x.odds(15, 0));
        refused(FindingsTest::some, Due.BEYOND, "odds(0, 2)", x -> x.odds(0, 2));
        refused(FindingsTest::some, Due.BEYOND, "feed(0, 0)", x -> x.feed(0x61616161, 0));
        refused(FindingsTest::some, Due.BEYOND, "feed(0, 5)", x -> x.feed(0x61616161, 5));
        refused(FindingsTest::full, Due.FULL, "feed(0, 1)", x -> x.feed(0x61616161, 1));
        refused(FindingsTest::full, Due.FULL, "feed(0, 4)", x -> x.feed(0x61616161, 4));
    }

    private static void callsOfSheets() {
        refused(FindingsTest::some, Due.BEYOND, "hold(10, 0)", x -> x.hold(10, 0));
        refused(FindingsTest::some, Due.BEYOND, "hold(0, 3)", x -> x.hold(0, 3));
        refused(FindingsTest::some, Due.BEYOND, "hold(0, -2)", x -> x.hold(0, -2));
        refused(FindingsTest::some, Due.BEYOND, "as(10, 0)", x -> x.as(10, 0));
        refused(FindingsTest::some, Due.MISSING, "as(1, 0)", x -> x.as(1, 0));
        refused(FindingsTest::some, Due.KIND, "as(0, 1)", x -> x.as(0, 1));
        refused(FindingsTest::some, Due.BEYOND, "sheet(4, 8, 1)", x -> x.sheet(4, 8, 1));
        refused(FindingsTest::some, Due.BEYOND, "sheet(0, 9, 1)", x -> x.sheet(0, 9, 1));
        refused(FindingsTest::some, Due.SIZE, "sheet(0, 16, -1)", x -> x.sheet(0, 16, -1));
        refused(FindingsTest::some, Due.SIZE, "sheet(0, 0, -1)", x -> x.sheet(0, 0, -1));
        refused(FindingsTest::some, Due.BEYOND, "sheet(0, 16, 41)", x -> x.sheet(0, 16, 41));
        refused(FindingsTest::some, Due.BEYOND, "sheet(0, 0, 41)", x -> x.sheet(0, 0, 41));
        refused(FindingsTest::some, Due.BEYOND, "write(4, 0, 5)", x -> x.write(4, 0, 5));
        refused(FindingsTest::some, Due.MISSING, "write(3, 0, 5)", x -> x.write(3, 0, 5));
        refused(FindingsTest::some, Due.BEYOND, "write(0, 3, 5)", x -> x.write(0, 3, 5));
        refused(FindingsTest::some, Due.BEYOND, "write(2, -1, 5)", x -> x.write(2, -1, 5));
        int[][] copied = {{4, 0, 0, 0, 1, Due.BEYOND}, {0, 0, -1, 0, 1, Due.BEYOND}, {3, 0, 0, 0, 0, Due.MISSING}, {0, 0, 3, 0, 0, Due.MISSING}, {0, 0, 1, 0, 1, Due.KIND},
            {0, 0, 2, 0, 4, Due.BEYOND}, {0, 1, 2, 0, 3, Due.BEYOND}, {0, 0, 2, 39, 2, Due.BEYOND}, {2, 0, 0, 0, 4, Due.BEYOND}, {0, -1, 2, 0, 1, Due.BEYOND},
            {0, 0, 2, -1, 1, Due.BEYOND}, {0, 0, 2, 0, -1, Due.BEYOND}};
        for (int[] c : copied) {
            refused(FindingsTest::some, c[5], "copy(" + c[0] + ", " + c[1] + ", " + c[2] + ", " + c[3] + ", " + c[4] + ")", x -> x.copy(c[0], c[1], c[2], c[3], c[4]));
        }
        refused(FindingsTest::some, Due.BEYOND, "load(4)", x -> x.load(4));
        refused(FindingsTest::some, Due.MISSING, "load(3)", x -> x.load(3));
        refused(FindingsTest::some, Due.BEYOND, "judge(4)", x -> x.judge(4));
        refused(FindingsTest::some, Due.MISSING, "judge(3)", x -> x.judge(3));
        refused(FindingsTest::none, Due.NONE, "undo()", x -> x.undo());
        refused(FindingsTest::some, Due.BEYOND, "count(8)", x -> x.count(8));
        refused(FindingsTest::some, Due.BEYOND, "status(7)", x -> x.status(7));
    }

    private static void values(Due due) {
        due.says(0, "FINDINGS are answers below -1000000: LOW is -1000001; LOW BEYOND, LOW - 1 FULL, LOW - 2 KIND, LOW - 3 NONE, LOW - 4 STATE, LOW - 5 MISSING, LOW - 6 SIZE (in longs, too).");
        due.is("BEYOND", new EnvyRust().thing(4, 0), -1000001);
        due.is("FULL", full().thing(0, 0), -1000002);
        due.is("KIND", some().as(0, 1), -1000003);
        due.is("NONE", none().keystone(), -1000004);
        due.is("STATE", some().forge(0, 5, 1), -1000005);
        due.is("MISSING", none().judge(3), -1000006);
        due.is("SIZE", none().sheet(0, 8, -1), -1000007);
        due.is("in longs", none().odds(15, 0), -1000001L);
        due.is("in longs", none().odds(0, 2), -1000001L);
        for (Refused r : REFUSED) {
            EnvyRust x = r.maker.get();
            due.refuses(x, r.finding, r.call, () -> r.act.applyAsLong(x));
        }
    }

    private static void anyZ(Due due) {
        due.says(0, "What seed() and count(6) tell, z, may be any int: that is no finding.");
        int[] any = {-999999, -1000000, -1000001, -1000002, -1000007, -1000008, LEAST, MOST, 0, -1, 1};
        EnvyRust x = new EnvyRust();
        int before = 1;
        for (int z : any) {
            due.is("seed(" + z + ")", x.seed(z), before);
            due.is("count(6)", x.count(6), z);
            due.is("none of these is a finding", x.status(-1), 0);
            before = z;
        }
    }

    private static void order(Due due) {
        due.says(0, "Each act tells its findings in the order in which they are asked (that of its words); ");
        EnvyRust full = full();
        due.is("thing: BEYOND, FULL", full.thing(4, 0), Due.BEYOND);
        due.is("thing: BEYOND, FULL", full.thing(0, 16), Due.BEYOND);
        due.is("person: BEYOND, FULL", full.person(7, 0), Due.BEYOND);
        due.is("person: BEYOND, FULL", full.person(0, -1), Due.BEYOND);
        due.is("feed: BEYOND, FULL", full.feed(0, 5), Due.BEYOND);
        due.is("feed: BEYOND, FULL", full.feed(0, 0), Due.BEYOND);
        due.is("forge on itself: BEYOND, STATE", full.forge(0, 5, 0), Due.BEYOND);
        EnvyRust late = late();
        due.is("go: BEYOND, STATE", late.go(61), Due.BEYOND);
        due.is("strolls: BEYOND, STATE", late.strolls(21), Due.BEYOND);
        EnvyRust one = Due.town("thing 0 thick 0");
        due.is("ownerFor: BEYOND, NONE", one.ownerFor(0, 61), Due.BEYOND);
        due.is("ownerFor: BEYOND, NONE", one.ownerFor(1, 0), Due.BEYOND);
        due.is("worst: BEYOND, NONE", one.worst(61), Due.BEYOND);
        due.is("needs: BEYOND, NONE", one.needs(0, 61), Due.BEYOND);
        EnvyRust some = some();
        due.is("sees: BEYOND, NONE", some.sees(2, 4), Due.BEYOND);
        due.is("deal: BEYOND, NONE", some.deal(0, 0, 8), Due.BEYOND);
        due.is("fits: MISSING, BEYOND", some.fits(3, 3, 4), Due.MISSING);
        due.is("likes: MISSING, BEYOND", some.likes(3, 3, 4), Due.MISSING);
        due.is("likes: BEYOND, NONE", some.likes(0, 3, 3), Due.BEYOND);
        due.is("as: BEYOND, MISSING", some.as(1, 7), Due.BEYOND);
        due.is("as: BEYOND, KIND", some.as(0, 7), Due.BEYOND);
        due.is("sheet: BEYOND, SIZE", some.sheet(4, 8, -1), Due.BEYOND);
        due.is("sheet: BEYOND, SIZE", some.sheet(0, 9, -1), Due.BEYOND);
        due.is("sheet: SIZE", some.sheet(0, 8, LEAST), Due.SIZE);
        due.is("write: MISSING, BEYOND", some.write(3, 40, 0), Due.MISSING);
        due.is("copy: BEYOND, MISSING", some.copy(3, 0, 4, 0, 0), Due.BEYOND);
        due.is("copy: BEYOND, MISSING", some.copy(4, 0, 3, 0, 0), Due.BEYOND);
        due.is("copy: BEYOND, KIND", some.copy(0, 0, 4, 0, 0), Due.BEYOND);
        due.is("copy: MISSING, BEYOND", some.copy(3, -1, 0, 99, -1), Due.MISSING);
        due.is("copy: MISSING, BEYOND", some.copy(0, -1, 3, 99, -1), Due.MISSING);
        due.is("copy: KIND, BEYOND", some.copy(0, 0, 1, 0, -1), Due.KIND);
        due.is("copy: KIND, BEYOND", some.copy(1, 99, 0, 0, 1), Due.KIND);
    }

    /** All that can be got to know of an object, at its cost. */
    private static String whole(EnvyRust x) {
        StringBuilder all = new StringBuilder(Due.seen(x));
        for (int spot = 0; spot <= 9; spot++) {
            all.append(' ').append(x.as(spot, 0));
        }
        while (x.count(1) == 0) {
            x.thing(0, 0);
        }
        for (int s = 0; s <= 3; s++) {
            all.append("\n sheet ").append(s).append(':').append(x.load(s)).append(' ').append(x.judge(s));
            for (int i = 0; i < 40 && x.copy(s, i, s, 0, 1) == 1; i++) {
                x.forge(0, 2, 0);
                all.append(' ').append(x.load(s)).append(' ').append(x.thingOf(0, 2));
            }
            all.append(' ').append(x.copy(s, 0, 0, 0, 0)).append(' ').append(x.copy(s, 0, 1, 0, 0));
        }
        all.append("\n text ").append(x.text()).append(' ').append(Due.seen(x));
        all.append("\n undo ").append(x.undo()).append(' ').append(Due.seen(x));
        return all.toString();
    }

    private static void nothingChanges(Due due) {
        due.says(0, "one that answers a finding changes nothing but status().");
        for (Refused r : REFUSED) {
            EnvyRust x = r.maker.get();
            int all = x.status(-1);
            due.is(r.call, r.act.applyAsLong(x), r.finding);
            due.is("status(-1) behind " + r.call, x.status(-1), all + 1);
            due.same(r.call, whole(r.maker.get()), whole(x));
        }
    }
}
