import java.util.ArrayList;
import java.util.List;
import java.util.function.Consumer;
import java.util.function.IntPredicate;
import java.util.function.IntUnaryOperator;
import java.util.regex.Matcher;
import java.util.regex.Pattern;

/**
 * The document once more, as slow and as literally as can be, for ModelTest: worlds are copied
 * for each question, kinds are classes, sets and deals are all tried.
 */
final class Model {
    static final class Stop extends RuntimeException {
        private static final long serialVersionUID = 1L;
        final int finding;

        Stop(int finding) {
            super(null, null, false, false);
            this.finding = finding;
        }
    }

    static class Looker {
        double raw(World w, Person one, Thing thing, int owner) {
            return one.likes[thing.sort] - thing.paint;
        }
    }

    static class Modest extends Looker {
        @Override double raw(World w, Person one, Thing thing, int owner) {
            double whole = super.raw(w, one, thing, owner) / 2;
            return whole < 0 ? Math.ceil(whole) : Math.floor(whole);
        }
    }

    static final class Beggar extends Modest {
        @Override double raw(World w, Person one, Thing thing, int owner) {
            return owner < 0 ? 0 : super.raw(w, one, thing, owner);
        }
    }

    static class Rival extends Looker {
        @Override double raw(World w, Person one, Thing thing, int owner) {
            boolean rivals = owner >= 0 && w.people.get(owner).soul() instanceof Rival;
            return super.raw(w, one, thing, owner) + (rivals ? 2 : 0);
        }
    }

    static class Praiser extends Rival {
        @Override double raw(World w, Person one, Thing thing, int owner) {
            return super.raw(w, one, thing, owner) - 3;
        }
    }

    static final class Thief extends Praiser {
        @Override double raw(World w, Person one, Thing thing, int owner) {
            return super.raw(w, one, thing, owner) + Math.floor(thing.thick / 100.0);
        }
    }

    static final class Child extends Looker {
        @Override double raw(World w, Person one, Thing thing, int owner) {
            return super.raw(w, one, thing, owner) + super.raw(w, one, thing, owner);
        }
    }

    private static final Looker[] SOULS = {new Looker(), new Modest(), new Rival(), new Praiser(), new Thief(), new Child(), new Beggar()};
    private static final String[] NAMES = {"looker", "modest", "rival", "praiser", "thief", "child", "beggar"};

    static final class Thing {
        int sort, at, thick = 100, paint, owner = -1, hangs = -1;

        Thing copy() {
            Thing t = new Thing();
            t.sort = sort; t.at = at; t.thick = thick; t.paint = paint; t.owner = owner; t.hangs = hangs;
            return t;
        }
    }

    static final class Person {
        int kind, at, walk = 1;
        int[] likes = {1, 1, 1, 1};
        boolean muted;

        Looker soul() {
            return SOULS[kind];
        }

        Person copy() {
            Person p = new Person();
            p.kind = kind; p.at = at; p.walk = walk; p.likes = likes.clone(); p.muted = muted;
            return p;
        }
    }

    static final class World {
        List<Thing> things = new ArrayList<>();
        List<Person> people = new ArrayList<>();
        int day, z = 1;
        int[] spots = {-1, -1, -1, -1, -1, -1, -1, -1, -1, -1};

        World copy() {
            World w = new World();
            for (Thing t : things) w.things.add(t.copy());
            for (Person p : people) w.people.add(p.copy());
            w.day = day; w.z = z; w.spots = spots.clone();
            return w;
        }

        int envyAs(int person, int thing, int owner) {
            Thing t = things.get(thing);
            Person p = people.get(person);
            if (p.muted || t.thick == 0 || owner == person) return 0;
            return (int) Math.max(0, p.soul().raw(this, p, t, owner));
        }

        int envyFor(int person, int thing) {
            return envyAs(person, thing, things.get(thing).owner);
        }

        int thickWorn(int thing) {
            int all = 0;
            for (int p = 0; p < people.size(); p++) {
                if (people.get(p).at == things.get(thing).at) all += envyFor(p, thing);
            }
            return Math.max(0, things.get(thing).thick - all);
        }

        int wear(int thing) {
            return things.get(thing).thick - thickWorn(thing);
        }

        World behind(int days) {
            World w = copy();
            for (int d = 0; d < days; d++) w = w.next();
            return w;
        }

        World next() {
            World w = copy();
            for (int t = 0; t < things.size(); t++) {
                w.things.get(t).thick = thickWorn(t);
            }
            for (int again = 0; again < 20; again++) {
                for (Thing t : w.things) {
                    if (t.hangs >= 0 && w.things.get(t.hangs).thick == 0) t.thick = 0;
                }
            }
            for (Person p : w.people) p.at = Math.floorMod(p.at + p.walk, 16);
            w.day = day + 1;
            return w;
        }

        int thick() {
            return things.stream().mapToInt(t -> t.thick).sum();
        }

        int lost(int days) {
            return thick() - behind(days).thick();
        }

        int set(IntPredicate in) {
            int set = 0;
            for (int t = 0; t < things.size(); t++) if (in.test(t)) set += 1 << t;
            return set;
        }

        boolean hangsAtLast(int thing, int on) {
            for (int t = thing; t >= 0; t = things.get(t).hangs) if (t == on) return true;
            return false;
        }

        int worth(int person, int set) {
            int all = 0;
            for (int t = 0; t < things.size(); t++) if ((set >> t) % 2 == 1) all += envyAs(person, t, -1);
            return all;
        }

        int owned(int person) {
            return set(t -> things.get(t).owner == person);
        }
    }

    World now = new World();
    World kept = null;
    int[][] sheets = new int[4][];
    int[] bits = new int[4];
    StringBuilder tape = new StringBuilder();
    int[] findings = new int[7];

    /** The act, or the finding that it stops with, counted. */
    long act(java.util.function.LongSupplier act) {
        try {
            return act.getAsLong();
        } catch (Stop stop) {
            findings[-1000001 - stop.finding]++;
            return stop.finding;
        }
    }

    static void need(boolean is, int finding) {
        if (!is) throw new Stop(finding);
    }

    static void in(int v, int least, int most) {
        need(least <= v && v <= most, Due.BEYOND);
    }

    void aThing(int t) {
        in(t, 0, now.things.size() - 1);
    }

    void aPerson(int p) {
        in(p, 0, now.people.size() - 1);
    }

    int thing(int sort, int place) {
        in(sort, 0, 3);
        in(place, 0, 15);
        need(now.things.size() < 8, Due.FULL);
        Thing t = new Thing();
        t.sort = sort;
        t.at = place;
        now.things.add(t);
        return now.things.size() - 1;
    }

    int thingOf(int thing, int what) {
        aThing(thing);
        in(what, 0, 6);
        Thing t = now.things.get(thing);
        return new int[] {t.sort, t.at, t.thick, t.paint, t.owner, t.hangs, now.wear(thing)}[what];
    }

    static void setThing(Thing t, int what, int v) {
        if (what == 0) t.sort = v;
        if (what == 1) t.at = v;
        if (what == 2) t.thick = v;
        if (what == 3) t.paint = v;
        if (what == 4) t.owner = v;
        if (what == 5) t.hangs = v;
    }

    int forge(int thing, int what, int v) {
        aThing(thing);
        in(what, 0, 5);
        int[] most = {3, 15, 999, 9, now.people.size() - 1, now.things.size() - 1};
        in(v, what < 4 ? 0 : -1, most[what]);
        if (what == 5) {
            need(v != thing, Due.BEYOND);
            need(v < 0 || !now.hangsAtLast(v, thing), Due.STATE);
        }
        int was = thingOf(thing, what);
        setThing(now.things.get(thing), what, v);
        return was;
    }

    int person(int kind, int place) {
        in(kind, 0, 6);
        in(place, 0, 15);
        need(now.people.size() < 8, Due.FULL);
        Person p = new Person();
        p.kind = kind;
        p.at = place;
        now.people.add(p);
        return now.people.size() - 1;
    }

    int of(int person, int what) {
        aPerson(person);
        in(what, 0, 7);
        Person p = now.people.get(person);
        return new int[] {p.kind, p.at, p.walk, p.likes[0], p.likes[1], p.likes[2], p.likes[3], now.owned(person)}[what];
    }

    static void setPerson(Person p, int what, int v) {
        if (what == 0) p.kind = v;
        if (what == 1) p.at = v;
        if (what == 2) p.walk = v;
        if (what >= 3) p.likes[what - 3] = v;
    }

    int change(int person, int what, int v) {
        aPerson(person);
        in(what, 0, 6);
        in(v, 0, new int[] {6, 15, 15, 9, 9, 9, 9}[what]);
        int was = of(person, what);
        setPerson(now.people.get(person), what, v);
        return was;
    }

    int envy(int person, int thing) {
        aPerson(person);
        aThing(thing);
        return now.envyFor(person, thing);
    }

    int go(int n) {
        in(n, 1, 60);
        need(now.day <= 99999 - n, Due.STATE);
        now = now.behind(n);
        return count(3);
    }

    int now(int what) {
        in(what, 0, 4);
        if (what == 0) return now.day;
        if (what == 1) return now.set(t -> now.things.get(t).thick == 0);
        if (what == 2) return now.thick();
        if (what == 3) {
            int all = 0;
            for (int t = 0; t < now.things.size(); t++) all += now.wear(t);
            return all;
        }
        return now.set(t -> now.people.stream().anyMatch(p -> p.at == now.things.get(t).at));
    }

    int ahead(int thing, int n) {
        aThing(thing);
        in(n, 0, 100);
        return now.behind(n).things.get(thing).thick;
    }

    int lasts(int thing) {
        aThing(thing);
        World w = now;
        for (int d = 0; d <= 100; d++) {
            if (w.things.get(thing).thick == 0) return d;
            w = w.next();
        }
        throw new Stop(Due.NONE);
    }

    int gone(int n) {
        in(n, 0, 100);
        World w = now.behind(n);
        return w.set(t -> w.things.get(t).thick == 0);
    }

    int worn(int n) {
        in(n, 0, 100);
        return now.lost(n);
    }

    int sees(int person, int thing) {
        aPerson(person);
        aThing(thing);
        World w = now;
        for (int d = 0; d <= 100; d++) {
            if (w.people.get(person).at == w.things.get(thing).at) return d;
            w = w.next();
        }
        throw new Stop(Due.NONE);
    }

    /** The least number of 0 to most for which the cost is least. */
    static int cheapest(int most, IntUnaryOperator cost) {
        int best = 0;
        for (int v = 1; v <= most; v++) if (cost.applyAsInt(v) < cost.applyAsInt(best)) best = v;
        return best;
    }

    World with(Consumer<World> how) {
        World w = now.copy();
        how.accept(w);
        return w;
    }

    int kindFor(int person, int n) {
        aPerson(person);
        in(n, 0, 60);
        return cheapest(6, v -> with(w -> w.people.get(person).kind = v).lost(n));
    }

    int walkFor(int person, int n) {
        aPerson(person);
        in(n, 0, 60);
        return cheapest(15, v -> with(w -> w.people.get(person).walk = v).lost(n));
    }

    int placeFor(int thing, int n) {
        aThing(thing);
        in(n, 0, 60);
        return cheapest(15, v -> -with(w -> w.things.get(thing).at = v).behind(n).things.get(thing).thick);
    }

    int ownerFor(int thing, int n) {
        aThing(thing);
        in(n, 0, 60);
        need(!now.people.isEmpty(), Due.NONE);
        return cheapest(now.people.size() - 1, v -> -with(w -> w.things.get(thing).owner = v).behind(n).things.get(thing).thick);
    }

    int worst(int n) {
        in(n, 0, 60);
        need(!now.people.isEmpty(), Due.NONE);
        return cheapest(now.people.size() - 1, v -> with(w -> w.people.get(v).muted = true).lost(n));
    }

    int paint(int k, int n) {
        in(k, 0, 8);
        in(n, 0, 60);
        int all = now.things.size();
        int size = Math.min(k, all);
        int best = -1;
        int least = 0;
        for (int set = 0; set < 1 << all; set++) {
            if (Integer.bitCount(set) != size) continue;
            World w = now.copy();
            for (int t = 0; t < all; t++) if ((set >> t) % 2 == 1) w.things.get(t).paint = 9;
            int lost = w.lost(n);
            if (best < 0 || lost < least) {
                best = set;
                least = lost;
            }
        }
        return best;
    }

    int needs(int thing, int n) {
        aThing(thing);
        in(n, 0, 60);
        for (int v = 0; v <= 9; v++) {
            int coat = v;
            if (with(w -> w.things.get(thing).paint = coat).behind(n).things.get(thing).thick > 0) return v;
        }
        throw new Stop(Due.NONE);
    }

    int fallsWith(int thing) {
        aThing(thing);
        return now.set(t -> now.hangsAtLast(t, thing));
    }

    int depth(int thing) {
        aThing(thing);
        int hanger = now.things.get(thing).hangs;
        return hanger < 0 ? 0 : 1 + depth(hanger);
    }

    int keystone() {
        need(!now.things.isEmpty(), Due.NONE);
        return cheapest(now.things.size() - 1, t -> -Integer.bitCount(fallsWith(t)));
    }

    int fells() {
        int all = (1 << now.things.size()) - 1;
        int best = all;
        for (int set = all; set >= 0; set--) {
            int falls = 0;
            for (int t = 0; t < now.things.size(); t++) if ((set >> t) % 2 == 1) falls |= fallsWith(t);
            if (falls == all && Integer.bitCount(set) <= Integer.bitCount(best)) best = set;
        }
        return best;
    }

    int worth(int person, int things) {
        aPerson(person);
        in(things, 0, (1 << now.things.size()) - 1);
        return now.worth(person, things);
    }

    private List<Integer> parts(int a, int b, int things) {
        aPerson(a);
        aPerson(b);
        need(a != b, Due.BEYOND);
        in(things, 0, (1 << now.things.size()) - 1);
        List<Integer> parts = new ArrayList<>();
        for (int set = 0; set < 256; set++) if ((set | things) == things) parts.add(set);
        return parts;
    }

    private List<Integer> fair(int a, int b, int things) {
        List<Integer> parts = parts(a, b, things);
        parts.removeIf(p -> now.worth(a, things ^ p) > now.worth(a, p) || now.worth(b, p) > now.worth(b, things ^ p));
        return parts;
    }

    int deal(int a, int b, int things) {
        List<Integer> fair = fair(a, b, things);
        need(!fair.isEmpty(), Due.NONE);
        return fair.get(0);
    }

    int deals(int a, int b, int things) {
        return fair(a, b, things).size();
    }

    int lesser(int a, int b, int things) {
        List<Integer> parts = parts(a, b, things);
        int i = cheapest(parts.size() - 1, p -> -Math.min(now.worth(a, parts.get(p)), now.worth(b, things ^ parts.get(p))));
        return parts.get(i);
    }

    int envious() {
        int pairs = 0;
        for (int a = 0; a < now.people.size(); a++) {
            for (int b = 0; b < now.people.size(); b++) {
                if (a != b && now.worth(a, now.owned(b)) > now.worth(a, now.owned(a))) pairs++;
            }
        }
        return pairs;
    }

    private List<Integer> likings(int s, int person, int thing) {
        aSheet(s);
        aPerson(person);
        aThing(thing);
        List<Integer> likings = new ArrayList<>();
        for (int v = 0; v <= 9; v++) {
            World w = now.copy();
            w.people.get(person).likes[w.things.get(thing).sort] = v;
            boolean fits = true;
            for (int d = 0; d < sheets[s].length; d++) {
                int told = sheets[s][d];
                fits &= told == -1 || told == w.behind(d).things.get(thing).thick;
            }
            if (fits) likings.add(v);
        }
        return likings;
    }

    int fits(int s, int person, int thing) {
        return likings(s, person, thing).size();
    }

    int likes(int s, int person, int thing) {
        List<Integer> likings = likings(s, person, thing);
        need(!likings.isEmpty(), Due.NONE);
        return likings.get(0);
    }

    int strolls(int n) {
        in(n, 1, 20);
        need(now.day <= 99999 - n, Due.STATE);
        int before = now.thick();
        for (int i = 0; i < n; i++) {
            for (Person p : now.people) {
                now.z = (int) (now.z * 1103515245L + 12345L);
                p.at = (int) ((now.z & 0xffffffffL) / 256 % 16);
            }
            now = now.next();
        }
        return before - now.thick();
    }

    long odds(int n, int what) {
        in(n, 0, 14);
        in(what, 0, 1);
        long free = 16 - now.things.stream().mapToInt(t -> t.at).distinct().count();
        java.math.BigInteger above = java.math.BigInteger.valueOf(free).pow(n);
        java.math.BigInteger below = java.math.BigInteger.valueOf(16).pow(n);
        java.math.BigInteger both = above.gcd(below);
        return (what == 0 ? above : below).divide(both).longValueExact();
    }

    int seed(int v) {
        int was = now.z;
        now.z = v;
        return was;
    }

    int feed(int bytes, int n) {
        in(n, 1, 4);
        need(tape.length() + n <= 120, Due.FULL);
        for (int i = n - 1; i >= 0; i--) tape.append((char) (bytes >>> 8 * i & 255));
        return tape.length();
    }

    int wipe() {
        int had = tape.length();
        tape.setLength(0);
        return had;
    }

    private List<String> tokens;
    private List<Integer> places;
    private int next;

    private static final class Fault extends RuntimeException {
        private static final long serialVersionUID = 1L;
    }

    private void cut(String text) {
        tokens = new ArrayList<>();
        places = new ArrayList<>();
        next = 0;
        Matcher m = Pattern.compile("[a-z]+|[0-9]+|[^ ]", Pattern.DOTALL).matcher(text);
        while (m.find()) {
            tokens.add(m.group());
            places.add(m.start());
        }
        tokens.add("");
        places.add(text.length());
    }

    private boolean taken(String token) {
        boolean is = tokens.get(next).equals(token);
        if (is) next++;
        return is;
    }

    private int number(int most) {
        String token = tokens.get(next);
        if (!token.matches("[0-9]+") || new java.math.BigInteger(token).compareTo(java.math.BigInteger.valueOf(most)) > 0) throw new Fault();
        next++;
        return Integer.parseInt(token);
    }

    private void item(World w) {
        int kind = List.of(NAMES).indexOf(tokens.get(next));
        if (kind >= 0 && w.people.size() < 8) {
            next++;
            Person p = new Person();
            p.kind = kind;
            if (taken("at")) p.at = number(15);
            if (taken("walks")) p.walk = number(15);
            if (taken("likes")) for (int s = 0; s < 4; s++) p.likes[s] = number(9);
            w.people.add(p);
        } else if (w.things.size() < 8 && taken("thing")) {
            Thing t = new Thing();
            t.sort = number(3);
            if (taken("at")) t.at = number(15);
            if (taken("thick")) t.thick = number(999);
            if (taken("paint")) t.paint = number(9);
            if (taken("of")) t.owner = number(w.people.size() - 1);
            if (taken("on")) t.hangs = number(w.things.size() - 1);
            w.things.add(t);
        } else {
            throw new Fault();
        }
    }

    int text() {
        cut(tape.toString());
        tape.setLength(0);
        World w = now.copy();
        int items = 0;
        try {
            do {
                item(w);
                items++;
            } while (taken(";"));
            if (next != tokens.size() - 1) throw new Fault();
        } catch (Fault fault) {
            return -1 - places.get(next);
        }
        now = w;
        return items;
    }

    int hold(int spot, int person) {
        in(spot, 0, 9);
        in(person, -1, now.people.size() - 1);
        now.spots[spot] = person;
        return 1;
    }

    int as(int spot, int kind) {
        in(spot, 0, 9);
        in(kind, 0, 6);
        int held = now.spots[spot];
        need(held >= 0, Due.MISSING);
        need(SOULS[kind].getClass().isInstance(now.people.get(held).soul()), Due.KIND);
        return held;
    }

    void aSheet(int s) {
        in(s, 0, 3);
        need(sheets[s] != null, Due.MISSING);
    }

    int sheet(int s, int width, int n) {
        in(s, 0, 3);
        need(List.of(0, 8, 16, 32).contains(width), Due.BEYOND);
        need(n >= 0, Due.SIZE);
        in(n, 0, 40);
        sheets[s] = width == 0 ? null : new int[n];
        bits[s] = width;
        return width == 0 ? 0 : n;
    }

    int write(int s, int i, int v) {
        aSheet(s);
        in(i, 0, sheets[s].length - 1);
        sheets[s][i] = v << 32 - bits[s] >> 32 - bits[s];
        return 1;
    }

    int copy(int s, int from, int t, int to, int n) {
        in(s, 0, 3);
        in(t, 0, 3);
        aSheet(s);
        aSheet(t);
        need(bits[s] == bits[t], Due.KIND);
        need(from >= 0 && to >= 0 && n >= 0, Due.BEYOND);
        need((long) from + n <= sheets[s].length && (long) to + n <= sheets[t].length, Due.BEYOND);
        int[] were = sheets[s].clone();
        for (int i = 0; i < n; i++) sheets[t][to + i] = were[from + i];
        return n;
    }

    int load(int s) {
        aSheet(s);
        int came = 0;
        for (int v : sheets[s]) {
            if (v < 0 || v > 999 || came == now.things.size()) break;
            now.things.get(came).thick = v;
            came++;
        }
        return came;
    }

    int judge(int s) {
        aSheet(s);
        for (int i = 0; i < sheets[s].length; i++) {
            int t = sheets[s][i];
            if (t < 0 || t >= now.things.size()) return 1 + i;
            boolean last = i == sheets[s].length - 1;
            if (!last && (now.things.get(t).hangs < 0 || now.things.get(t).hangs != sheets[s][i + 1])) return 1 + i;
        }
        return 0;
    }

    int image() {
        kept = now.copy();
        return 1;
    }

    int undo() {
        need(kept != null, Due.NONE);
        now = kept.copy();
        return now.day;
    }

    int tear() {
        int was = kept == null ? 0 : 1;
        kept = null;
        return was;
    }

    int count(int what) {
        in(what, 0, 7);
        int gone = (int) now.things.stream().filter(t -> t.thick == 0).count();
        int held = (int) java.util.Arrays.stream(now.spots).filter(s -> s >= 0).count();
        return new int[] {now.day, now.things.size(), now.people.size(), gone, now.thick(), tape.length(), now.z, held}[what];
    }

    int status(int which) {
        in(which, -1, 6);
        return which < 0 ? java.util.Arrays.stream(findings).sum() : findings[which];
    }
}
