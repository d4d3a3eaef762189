/** A town round a ring of places, in which iron rusts by who wants it. */
public final class EnvyRust {
    private static final int BEYOND = -1000001;
    private static final int FULL = -1000002;
    private static final int WRONG_KIND = -1000003;
    private static final int NONE = -1000004;
    private static final int STATE = -1000005;
    private static final int MISSING = -1000006;
    private static final int SIZE = -1000007;
    private static final int FINDINGS = 7;

    private static final int NOTHING = -1;
    private static final int MOST = 8;
    private static final int PLACES = 16;
    private static final int SORTS = 4;
    private static final int KINDS = 7;
    private static final int MOST_LIKED = 9;
    private static final int MOST_PAINT = 9;
    private static final int MOST_THICK = 999;
    private static final int LAST_DAY = 99999;
    private static final int SPOTS = 10;
    private static final int SHEETS = 4;
    private static final int SHEET_LENGTH = 40;
    private static final int TAPE_LENGTH = 120;

    private static final int MOST_GO = 60;
    private static final int MOST_AHEAD = 100;
    private static final int MOST_TRIED = 60;
    private static final int MOST_STROLLS = 20;
    private static final int MOST_DRAWS = 14;

    // What is told of a thing, by the numbers of thingOf() and forge().
    private static final int SORT = 0;
    private static final int AT = 1;
    private static final int THICK = 2;
    private static final int PAINT = 3;
    private static final int OWNER = 4;
    private static final int HANGS = 5;
    private static final int WEAR = 6;

    // What is told of one of the people, by the numbers of of() and change(); AT is the same.
    private static final int KIND = 0;
    private static final int WALK = 2;
    private static final int LIKES = 3;
    private static final int OWNS = 7;

    private static final int LOOKER = 0;
    private static final int MODEST = 1;
    private static final int RIVAL = 2;
    private static final int PRAISER = 3;
    private static final int THIEF = 4;
    private static final int CHILD = 5;
    private static final int BEGGAR = 6;
    /** Of each kind the one that it is under. */
    private static final int[] KIND_ABOVE = {NOTHING, LOOKER, LOOKER, RIVAL, PRAISER, LOOKER, MODEST};

    private final Town town = new Town();
    private final Town kept = new Town();
    private final Town trial = new Town();
    private final TextReader reader = new TextReader();
    private final Sheet[] sheets = new Sheet[SHEETS];
    private final int[] findings = new int[FINDINGS];
    private boolean imaged = false;
    /** Of each thing how much of it is left, as it is painted and painted 9: for paint() alone. */
    private final int[] bare = new int[MOST];
    private final int[] dull = new int[MOST];

    public EnvyRust() {
        for (int s = 0; s < SHEETS; s++) {
            sheets[s] = new Sheet();
        }
    }

    // ---- things, people

    public int thing(int sort, int place) {
        if (!between(sort, 0, SORTS - 1) || !between(place, 0, PLACES - 1)) {
            return told(BEYOND);
        }
        if (town.things >= MOST) {
            return told(FULL);
        }
        return town.addThing(sort, place);
    }

    public int thingOf(int thing, int what) {
        if (!town.isThing(thing) || !between(what, SORT, WEAR)) {
            return told(BEYOND);
        }
        return what == WEAR ? town.wearOf(thing) : town.iron[what][thing];
    }

    public int forge(int thing, int what, int v) {
        if (!town.isThing(thing) || !forgeable(thing, what, v)) {
            return told(BEYOND);
        }
        if (what == HANGS && v != NOTHING && contains(town.falling(thing), v)) {
            return told(STATE);
        }
        int before = town.iron[what][thing];
        town.iron[what][thing] = v;
        return before;
    }

    private boolean forgeable(int thing, int what, int v) {
        switch (what) {
            case SORT:
                return between(v, 0, SORTS - 1);
            case AT:
                return between(v, 0, PLACES - 1);
            case THICK:
                return between(v, 0, MOST_THICK);
            case PAINT:
                return between(v, 0, MOST_PAINT);
            case OWNER:
                return v == NOTHING || town.isPerson(v);
            case HANGS:
                return v == NOTHING || town.isThing(v) && v != thing;
            default:
                return false;
        }
    }

    public int person(int kind, int place) {
        if (!between(kind, 0, KINDS - 1) || !between(place, 0, PLACES - 1)) {
            return told(BEYOND);
        }
        if (town.people >= MOST) {
            return told(FULL);
        }
        return town.addPerson(kind, place);
    }

    public int of(int person, int what) {
        if (!town.isPerson(person) || !between(what, KIND, OWNS)) {
            return told(BEYOND);
        }
        return what == OWNS ? town.ownedBy(person) : town.folk[what][person];
    }

    public int change(int person, int what, int v) {
        if (!town.isPerson(person) || !changeable(what, v)) {
            return told(BEYOND);
        }
        int before = town.folk[what][person];
        town.folk[what][person] = v;
        return before;
    }

    private static boolean changeable(int what, int v) {
        switch (what) {
            case KIND:
                return between(v, 0, KINDS - 1);
            case AT:
            case WALK:
                return between(v, 0, PLACES - 1);
            default:
                return between(what, LIKES, LIKES + SORTS - 1) && between(v, 0, MOST_LIKED);
        }
    }

    public int envy(int person, int thing) {
        if (!town.isPerson(person) || !town.isThing(thing)) {
            return told(BEYOND);
        }
        return town.envyOf(person, thing);
    }

    // ---- days

    public int go(int n) {
        if (!between(n, 1, MOST_GO)) {
            return told(BEYOND);
        }
        if (town.day + n > LAST_DAY) {
            return told(STATE);
        }
        town.passDays(n);
        return Integer.bitCount(town.goneSet());
    }

    public int now(int what) {
        switch (what) {
            case 0:
                return town.day;
            case 1:
                return town.goneSet();
            case 2:
                return town.allThick();
            case 3:
                return town.allWear();
            case 4:
                return town.visited();
            default:
                return told(BEYOND);
        }
    }

    // ---- what will be (nothing changes)

    public int ahead(int thing, int n) {
        if (!town.isThing(thing) || !between(n, 0, MOST_AHEAD)) {
            return told(BEYOND);
        }
        startTrial();
        trial.passDays(n);
        return trial.iron[THICK][thing];
    }

    public int lasts(int thing) {
        if (!town.isThing(thing)) {
            return told(BEYOND);
        }
        startTrial();
        for (int days = 0; days <= MOST_AHEAD; days++) {
            if (trial.isGone(thing)) {
                return days;
            }
            trial.passDays(1);
        }
        return told(NONE);
    }

    public int gone(int n) {
        if (!between(n, 0, MOST_AHEAD)) {
            return told(BEYOND);
        }
        startTrial();
        trial.passDays(n);
        return trial.goneSet();
    }

    public int worn(int n) {
        if (!between(n, 0, MOST_AHEAD)) {
            return told(BEYOND);
        }
        startTrial();
        trial.passDays(n);
        return town.allThick() - trial.allThick();
    }

    public int sees(int person, int thing) {
        if (!town.isPerson(person) || !town.isThing(thing)) {
            return told(BEYOND);
        }
        int goal = town.iron[AT][thing];
        int walk = town.folk[WALK][person];
        int at = town.folk[AT][person];
        for (int days = 0; days <= MOST_AHEAD; days++) {
            if (at == goal) {
                return days;
            }
            at = onward(at, walk);
        }
        return told(NONE);
    }

    public int kindFor(int person, int n) {
        if (!town.isPerson(person) || !between(n, 0, MOST_TRIED)) {
            return told(BEYOND);
        }
        return sparingFor(person, KIND, KINDS, n);
    }

    public int walkFor(int person, int n) {
        if (!town.isPerson(person) || !between(n, 0, MOST_TRIED)) {
            return told(BEYOND);
        }
        return sparingFor(person, WALK, PLACES, n);
    }

    /** Which of 0 to choices - 1 lets all lose least: that which leaves most of all. */
    private int sparingFor(int person, int what, int choices, int n) {
        int best = 0;
        int most = -1;
        for (int v = 0; v < choices; v++) {
            startTrial();
            trial.folk[what][person] = v;
            trial.passDays(n);
            int left = trial.allThick();
            if (left > most) {
                most = left;
                best = v;
            }
        }
        return best;
    }

    public int placeFor(int thing, int n) {
        if (!town.isThing(thing) || !between(n, 0, MOST_TRIED)) {
            return told(BEYOND);
        }
        return thickestFor(thing, AT, PLACES, n);
    }

    public int ownerFor(int thing, int n) {
        if (!town.isThing(thing) || !between(n, 0, MOST_TRIED)) {
            return told(BEYOND);
        }
        if (town.people == 0) {
            return told(NONE);
        }
        return thickestFor(thing, OWNER, town.people, n);
    }

    /** With which of 0 to choices - 1 a thing would be thickest. */
    private int thickestFor(int thing, int what, int choices, int n) {
        int best = 0;
        int most = -1;
        for (int v = 0; v < choices; v++) {
            startTrial();
            trial.iron[what][thing] = v;
            trial.passDays(n);
            int left = trial.iron[THICK][thing];
            if (left > most) {
                most = left;
                best = v;
            }
        }
        return best;
    }

    public int worst(int n) {
        if (!between(n, 0, MOST_TRIED)) {
            return told(BEYOND);
        }
        if (town.people == 0) {
            return told(NONE);
        }
        int best = 0;
        int most = -1;
        for (int person = 0; person < town.people; person++) {
            startTrial();
            trial.calm = person;
            trial.passDays(n);
            int left = trial.allThick();
            if (left > most) {
                most = left;
                best = person;
            }
        }
        return best;
    }

    public int paint(int k, int n) {
        if (!between(k, 0, MOST) || !between(n, 0, MOST_TRIED)) {
            return told(BEYOND);
        }
        int size = Math.min(k, town.things);
        wearAlone(0, n, bare);
        wearAlone(town.allThings(), n, dull);
        startTrial();
        int best = 0;
        int most = -1;
        for (int set = 0; set <= town.allThings(); set++) {
            if (Integer.bitCount(set) == size) {
                int left = leftPainted(set);
                if (left > most) {
                    most = left;
                    best = set;
                }
            }
        }
        return best;
    }

    /** Tells how thick each thing is behind n days with a set painted 9, if none falls with another. */
    private void wearAlone(int set, int n, int[] left) {
        startTrial();
        for (int thing = 0; thing < trial.things; thing++) {
            trial.iron[HANGS][thing] = NOTHING;
            if (contains(set, thing)) {
                trial.iron[PAINT][thing] = MOST_PAINT;
            }
        }
        trial.passDays(n);
        System.arraycopy(trial.iron[THICK], 0, left, 0, MOST);
    }

    /**
     * How thick all together are behind the days with a set painted 9. How a thing wears has nothing
     * to do with how others are painted, and what falls may as well fall on the last day: so the
     * days need not go by for each set. (Without any day all sets are alike, whatever falls.)
     */
    private int leftPainted(int set) {
        for (int thing = 0; thing < trial.things; thing++) {
            trial.iron[THICK][thing] = contains(set, thing) ? dull[thing] : bare[thing];
        }
        trial.fallAll();
        return trial.allThick();
    }

    public int needs(int thing, int n) {
        if (!town.isThing(thing) || !between(n, 0, MOST_TRIED)) {
            return told(BEYOND);
        }
        for (int coat = 0; coat <= MOST_PAINT; coat++) {
            startTrial();
            trial.iron[PAINT][thing] = coat;
            trial.passDays(n);
            if (!trial.isGone(thing)) {
                return coat;
            }
        }
        return told(NONE);
    }

    private void startTrial() {
        trial.become(town);
    }

    // ---- what hangs

    public int fallsWith(int thing) {
        return town.isThing(thing) ? town.falling(thing) : told(BEYOND);
    }

    public int depth(int thing) {
        return town.isThing(thing) ? town.hangingDepth(thing) : told(BEYOND);
    }

    public int keystone() {
        if (town.things == 0) {
            return told(NONE);
        }
        int best = 0;
        int most = 0;
        for (int thing = 0; thing < town.things; thing++) {
            int falling = Integer.bitCount(town.falling(thing));
            if (falling > most) {
                most = falling;
                best = thing;
            }
        }
        return best;
    }

    /** Nothing else fells a thing that hangs on none, and with these all others fall. */
    public int fells() {
        int set = 0;
        for (int thing = 0; thing < town.things; thing++) {
            if (town.iron[HANGS][thing] == NOTHING) {
                set |= 1 << thing;
            }
        }
        return set;
    }

    // ---- deals

    public int worth(int person, int things) {
        if (!town.isPerson(person) || !town.isSet(things)) {
            return told(BEYOND);
        }
        return town.worthOf(person, things);
    }

    public int deal(int a, int b, int things) {
        if (!canDeal(a, b, things)) {
            return told(BEYOND);
        }
        for (int part = 0; part <= things; part++) {
            if (isPart(part, things) && leavesNoEnvy(a, b, part, things - part)) {
                return part;
            }
        }
        return told(NONE);
    }

    public int deals(int a, int b, int things) {
        if (!canDeal(a, b, things)) {
            return told(BEYOND);
        }
        int found = 0;
        for (int part = 0; part <= things; part++) {
            if (isPart(part, things) && leavesNoEnvy(a, b, part, things - part)) {
                found++;
            }
        }
        return found;
    }

    public int lesser(int a, int b, int things) {
        if (!canDeal(a, b, things)) {
            return told(BEYOND);
        }
        int best = 0;
        int most = -1;
        for (int part = 0; part <= things; part++) {
            if (isPart(part, things)) {
                int less = Math.min(town.worthOf(a, part), town.worthOf(b, things - part));
                if (less > most) {
                    most = less;
                    best = part;
                }
            }
        }
        return best;
    }

    private boolean canDeal(int a, int b, int things) {
        return town.isPerson(a) && town.isPerson(b) && a != b && town.isSet(things);
    }

    private boolean leavesNoEnvy(int a, int b, int ofA, int ofB) {
        return town.worthOf(a, ofA) >= town.worthOf(a, ofB)
            && town.worthOf(b, ofB) >= town.worthOf(b, ofA);
    }

    public int envious() {
        int pairs = 0;
        for (int one = 0; one < town.people; one++) {
            int own = town.worthOf(one, town.ownedBy(one));
            for (int other = 0; other < town.people; other++) {
                if (other != one && town.worthOf(one, town.ownedBy(other)) > own) {
                    pairs++;
                }
            }
        }
        return pairs;
    }

    // ---- what was worn

    public int fits(int s, int person, int thing) {
        int finding = findingOfFit(s, person, thing);
        if (finding != 0) {
            return told(finding);
        }
        int found = 0;
        for (int liked = 0; liked <= MOST_LIKED; liked++) {
            if (fitsWith(sheets[s], person, thing, liked)) {
                found++;
            }
        }
        return found;
    }

    public int likes(int s, int person, int thing) {
        int finding = findingOfFit(s, person, thing);
        if (finding != 0) {
            return told(finding);
        }
        for (int liked = 0; liked <= MOST_LIKED; liked++) {
            if (fitsWith(sheets[s], person, thing, liked)) {
                return liked;
            }
        }
        return told(NONE);
    }

    private int findingOfFit(int s, int person, int thing) {
        int finding = findingOfSheet(s);
        if (finding != 0) {
            return finding;
        }
        return town.isPerson(person) && town.isThing(thing) ? 0 : BEYOND;
    }

    private boolean fitsWith(Sheet tale, int person, int thing, int liked) {
        startTrial();
        trial.folk[LIKES + trial.iron[SORT][thing]][person] = liked;
        for (int i = 0; i < tale.length; i++) {
            if (tale.row[i] != -1 && tale.row[i] != trial.iron[THICK][thing]) {
                return false;
            }
            trial.passDays(1);
        }
        return true;
    }

    // ---- strollers

    public int strolls(int n) {
        if (!between(n, 1, MOST_STROLLS)) {
            return told(BEYOND);
        }
        if (town.day + n > LAST_DAY) {
            return told(STATE);
        }
        int before = town.allThick();
        for (int i = 0; i < n; i++) {
            town.scatter();
            town.passDays(1);
        }
        return before - town.allThick();
    }

    public long odds(int n, int what) {
        if (!between(n, 0, MOST_DRAWS) || !between(what, 0, 1)) {
            return told(BEYOND);
        }
        int above = PLACES - Integer.bitCount(town.placesOfThings());
        int below = PLACES;
        // PLACES is a power of 2, and powers of a fraction in lowest terms are in lowest terms.
        while (below > 1 && above % 2 == 0) {
            above /= 2;
            below /= 2;
        }
        long power = 1;
        for (int i = 0; i < n; i++) {
            power *= what == 0 ? above : below;
        }
        return power;
    }

    public int seed(int v) {
        int before = town.z;
        town.z = v;
        return before;
    }

    // ---- texts

    public int feed(int bytes, int n) {
        if (!between(n, 1, 4)) {
            return told(BEYOND);
        }
        if (reader.size + n > TAPE_LENGTH) {
            return told(FULL);
        }
        for (int i = n - 1; i >= 0; i--) {
            reader.put((byte) (bytes >> (8 * i)));
        }
        return reader.size;
    }

    public int wipe() {
        int had = reader.size;
        reader.size = 0;
        return had;
    }

    public int text() {
        int things = town.things;
        int people = town.people;
        int items = reader.readInto(town);
        if (reader.fault != NOTHING) {
            // A text only adds: what it added is off as soon as it isn't counted any more.
            town.things = things;
            town.people = people;
        }
        reader.size = 0;
        return reader.fault == NOTHING ? items : -1 - reader.fault;
    }

    // ---- spots, sheets

    public int hold(int spot, int person) {
        if (!between(spot, 0, SPOTS - 1) || person != NOTHING && !town.isPerson(person)) {
            return told(BEYOND);
        }
        town.spots[spot] = person;
        return 1;
    }

    public int as(int spot, int kind) {
        if (!between(spot, 0, SPOTS - 1) || !between(kind, 0, KINDS - 1)) {
            return told(BEYOND);
        }
        int person = town.spots[spot];
        if (person == NOTHING) {
            return told(MISSING);
        }
        return isOrUnder(town.folk[KIND][person], kind) ? person : told(WRONG_KIND);
    }

    public int sheet(int s, int bits, int n) {
        if (!isSheet(s) || bits != 0 && bits != 8 && bits != 16 && bits != 32) {
            return told(BEYOND);
        }
        if (n < 0) {
            return told(SIZE);
        }
        if (n > SHEET_LENGTH) {
            return told(BEYOND);
        }
        sheets[s].lay(bits, n);
        return sheets[s].length;
    }

    public int write(int s, int i, int v) {
        int finding = findingOfSheet(s);
        if (finding != 0) {
            return told(finding);
        }
        if (!between(i, 0, sheets[s].length - 1)) {
            return told(BEYOND);
        }
        sheets[s].put(i, v);
        return 1;
    }

    public int copy(int s, int from, int t, int to, int n) {
        if (!isSheet(s) || !isSheet(t)) {
            return told(BEYOND);
        }
        if (sheets[s].isMissing() || sheets[t].isMissing()) {
            return told(MISSING);
        }
        if (sheets[s].bits != sheets[t].bits) {
            return told(WRONG_KIND);
        }
        if (!sheets[s].has(from, n) || !sheets[t].has(to, n)) {
            return told(BEYOND);
        }
        System.arraycopy(sheets[s].row, from, sheets[t].row, to, n);
        return n;
    }

    public int load(int s) {
        int finding = findingOfSheet(s);
        if (finding != 0) {
            return told(finding);
        }
        int most = Math.min(sheets[s].length, town.things);
        for (int i = 0; i < most; i++) {
            int thick = sheets[s].row[i];
            if (!between(thick, 0, MOST_THICK)) {
                return i;
            }
            town.iron[THICK][i] = thick;
        }
        return most;
    }

    public int judge(int s) {
        int finding = findingOfSheet(s);
        if (finding != 0) {
            return told(finding);
        }
        for (int i = 0; i < sheets[s].length; i++) {
            if (!isLink(sheets[s], i)) {
                return 1 + i;
            }
        }
        return 0;
    }

    /** Whether number i is a thing, hanging on the thing that the next number is, if any follows. */
    private boolean isLink(Sheet chain, int i) {
        int thing = chain.row[i];
        if (!town.isThing(thing)) {
            return false;
        }
        if (i + 1 >= chain.length) {
            return true;
        }
        int hanger = town.iron[HANGS][thing];
        return hanger != NOTHING && hanger == chain.row[i + 1];
    }

    private static boolean isSheet(int s) {
        return between(s, 0, SHEETS - 1);
    }

    private int findingOfSheet(int s) {
        if (!isSheet(s)) {
            return BEYOND;
        }
        return sheets[s].isMissing() ? MISSING : 0;
    }

    // ---- images

    public int image() {
        kept.become(town);
        imaged = true;
        return 1;
    }

    public int undo() {
        if (!imaged) {
            return told(NONE);
        }
        town.become(kept);
        return town.day;
    }

    public int tear() {
        int torn = imaged ? 1 : 0;
        imaged = false;
        return torn;
    }

    public int count(int what) {
        switch (what) {
            case 0:
                return town.day;
            case 1:
                return town.things;
            case 2:
                return town.people;
            case 3:
                return Integer.bitCount(town.goneSet());
            case 4:
                return town.allThick();
            case 5:
                return reader.size;
            case 6:
                return town.z;
            case 7:
                return town.heldSpots();
            default:
                return told(BEYOND);
        }
    }

    public int status(int which) {
        if (!between(which, -1, FINDINGS - 1)) {
            return told(BEYOND);
        }
        if (which >= 0) {
            return findings[which];
        }
        int all = 0;
        for (int finding = 0; finding < FINDINGS; finding++) {
            all += findings[finding];
        }
        return all;
    }

    // ---- helpers

    /** Counts a finding, and answers it. */
    private int told(int finding) {
        int which = BEYOND - finding;
        if (between(which, 0, FINDINGS - 1)) {
            findings[which]++;
        }
        return finding;
    }

    private static boolean between(int v, int least, int most) {
        return v >= least && v <= most;
    }

    private static boolean contains(int set, int member) {
        return ((set >> member) & 1) == 1;
    }

    private static boolean isPart(int part, int set) {
        return (part & ~set) == 0;
    }

    private static int onward(int place, int walk) {
        return (place + walk) % PLACES;
    }

    private static boolean isOrUnder(int kind, int above) {
        int k = kind;
        for (int steps = 0; steps < KINDS && k >= 0 && k < KINDS; steps++) {
            if (k == above) {
                return true;
            }
            k = KIND_ABOVE[k];
        }
        return false;
    }

    /** All that an image keeps: things, people, spots, the day and z. */
    private static final class Town {
        private static final int TOLD_OF_THING = 6;
        private static final int TOLD_OF_PERSON = 7;

        /** By what thingOf() tells by 0 to 5 a row, with a number for each thing. */
        private final int[][] iron = new int[TOLD_OF_THING][MOST];
        /** By what of() tells by 0 to 6 a row, with a number for each one. */
        private final int[][] folk = new int[TOLD_OF_PERSON][MOST];
        private final int[] spots = new int[SPOTS];
        private int things = 0;
        private int people = 0;
        private int day = 0;
        private int z = 1;
        /** The one whose envy is left out, or nobody: only ever somebody in a trial. */
        private int calm = NOTHING;

        private Town() {
            for (int spot = 0; spot < SPOTS; spot++) {
                spots[spot] = NOTHING;
            }
        }

        private void become(Town other) {
            for (int what = 0; what < TOLD_OF_THING; what++) {
                System.arraycopy(other.iron[what], 0, iron[what], 0, MOST);
            }
            for (int what = 0; what < TOLD_OF_PERSON; what++) {
                System.arraycopy(other.folk[what], 0, folk[what], 0, MOST);
            }
            System.arraycopy(other.spots, 0, spots, 0, SPOTS);
            things = other.things;
            people = other.people;
            day = other.day;
            z = other.z;
            calm = other.calm;
        }

        private boolean isThing(int thing) {
            return between(thing, 0, things - 1);
        }

        private boolean isPerson(int person) {
            return between(person, 0, people - 1);
        }

        private int allThings() {
            return (1 << things) - 1;
        }

        private boolean isSet(int set) {
            return between(set, 0, allThings());
        }

        /** There must be room for one more. */
        private int addThing(int sort, int place) {
            int thing = things;
            things++;
            iron[SORT][thing] = sort;
            iron[AT][thing] = place;
            iron[THICK][thing] = 100;
            iron[PAINT][thing] = 0;
            iron[OWNER][thing] = NOTHING;
            iron[HANGS][thing] = NOTHING;
            return thing;
        }

        /** There must be room for one more. */
        private int addPerson(int kind, int place) {
            int person = people;
            people++;
            folk[KIND][person] = kind;
            folk[AT][person] = place;
            folk[WALK][person] = 1;
            for (int sort = 0; sort < SORTS; sort++) {
                folk[LIKES + sort][person] = 1;
            }
            return person;
        }

        private boolean isGone(int thing) {
            return iron[THICK][thing] == 0;
        }

        private int envyOf(int person, int thing) {
            int owner = iron[OWNER][thing];
            return owner == person || person == calm ? 0 : envyIfOwnedBy(owner, person, thing);
        }

        /** Envy for a thing as if it were somebody else's, or nobody's. */
        private int envyIfOwnedBy(int owner, int person, int thing) {
            int thick = iron[THICK][thing];
            if (thick == 0) {
                return 0;
            }
            int plain = folk[LIKES + iron[SORT][thing]][person] - iron[PAINT][thing];
            boolean ofRival = owner != NOTHING && isOrUnder(folk[KIND][owner], RIVAL);
            int rival = plain + (ofRival ? 2 : 0);
            switch (folk[KIND][person]) {
                case MODEST:
                    return Math.max(0, plain / 2);
                case RIVAL:
                    return Math.max(0, rival);
                case PRAISER:
                    return Math.max(0, rival - 3);
                case THIEF:
                    return Math.max(0, rival - 3 + thick / 100);
                case CHILD:
                    return Math.max(0, plain * 2);
                case BEGGAR:
                    return owner == NOTHING ? 0 : Math.max(0, plain / 2);
                default:
                    return Math.max(0, plain);
            }
        }

        private int worthOf(int person, int set) {
            int sum = 0;
            for (int thing = 0; thing < things; thing++) {
                if (contains(set, thing)) {
                    sum += envyIfOwnedBy(NOTHING, person, thing);
                }
            }
            return sum;
        }

        private int ownedBy(int person) {
            int set = 0;
            for (int thing = 0; thing < things; thing++) {
                if (iron[OWNER][thing] == person) {
                    set |= 1 << thing;
                }
            }
            return set;
        }

        /** What a day would take off now: all envy there, but no more than is left to wear. */
        private int wearOf(int thing) {
            int sum = 0;
            int place = iron[AT][thing];
            for (int person = 0; person < people; person++) {
                if (folk[AT][person] == place) {
                    sum += envyOf(person, thing);
                }
            }
            return Math.min(sum, iron[THICK][thing]);
        }

        private void passDays(int n) {
            for (int i = 0; i < n; i++) {
                // No thing's wear asks how thick another one is, so that each is worn at once.
                for (int thing = 0; thing < things; thing++) {
                    iron[THICK][thing] -= wearOf(thing);
                }
                fallAll();
                walkAll();
                day++;
            }
        }

        private void fallAll() {
            boolean falls = true;
            for (int round = 0; round < MOST && falls; round++) {
                falls = false;
                for (int thing = 0; thing < things; thing++) {
                    int hanger = iron[HANGS][thing];
                    if (hanger != NOTHING && isGone(hanger) && !isGone(thing)) {
                        iron[THICK][thing] = 0;
                        falls = true;
                    }
                }
            }
        }

        private void walkAll() {
            for (int person = 0; person < people; person++) {
                folk[AT][person] = onward(folk[AT][person], folk[WALK][person]);
            }
        }

        /** Puts each one where a draw says. */
        private void scatter() {
            for (int person = 0; person < people; person++) {
                z = z * 1103515245 + 12345;
                folk[AT][person] = (z >>> 8) % PLACES;
            }
        }

        private int goneSet() {
            int set = 0;
            for (int thing = 0; thing < things; thing++) {
                if (isGone(thing)) {
                    set |= 1 << thing;
                }
            }
            return set;
        }

        private int allThick() {
            int sum = 0;
            for (int thing = 0; thing < things; thing++) {
                sum += iron[THICK][thing];
            }
            return sum;
        }

        private int allWear() {
            int sum = 0;
            for (int thing = 0; thing < things; thing++) {
                sum += wearOf(thing);
            }
            return sum;
        }

        /** The things at whose place somebody is. */
        private int visited() {
            int places = 0;
            for (int person = 0; person < people; person++) {
                places |= 1 << folk[AT][person];
            }
            int set = 0;
            for (int thing = 0; thing < things; thing++) {
                if (contains(places, iron[AT][thing])) {
                    set |= 1 << thing;
                }
            }
            return set;
        }

        private int placesOfThings() {
            int places = 0;
            for (int thing = 0; thing < things; thing++) {
                places |= 1 << iron[AT][thing];
            }
            return places;
        }

        /** A thing, and all that hang on it, one on the other. */
        private int falling(int thing) {
            int set = 1 << thing;
            boolean grows = true;
            for (int round = 0; round < MOST && grows; round++) {
                grows = false;
                for (int other = 0; other < things; other++) {
                    int hanger = iron[HANGS][other];
                    if (hanger != NOTHING && contains(set, hanger) && !contains(set, other)) {
                        set |= 1 << other;
                        grows = true;
                    }
                }
            }
            return set;
        }

        private int hangingDepth(int thing) {
            int steps = 0;
            int hanger = iron[HANGS][thing];
            while (steps < MOST && hanger != NOTHING) {
                steps++;
                hanger = iron[HANGS][hanger];
            }
            return steps;
        }

        private int heldSpots() {
            int held = 0;
            for (int spot = 0; spot < SPOTS; spot++) {
                if (spots[spot] != NOTHING) {
                    held++;
                }
            }
            return held;
        }
    }

    /** A row of numbers of so many bits; with 0 bits it is missing. */
    private static final class Sheet {
        private final int[] row = new int[SHEET_LENGTH];
        private int bits = 0;
        private int length = 0;

        private boolean isMissing() {
            return bits == 0;
        }

        private void lay(int newBits, int newLength) {
            bits = newBits;
            length = newBits == 0 ? 0 : newLength;
            for (int i = 0; i < SHEET_LENGTH; i++) {
                row[i] = 0;
            }
        }

        private void put(int i, int v) {
            if (bits == 8) {
                row[i] = (byte) v;
            } else if (bits == 16) {
                row[i] = (short) v;
            } else {
                row[i] = v;
            }
        }

        /** The sum of both could be more than an int holds, so that their difference is asked. */
        private boolean has(int from, int n) {
            return from >= 0 && n >= 0 && from <= length && n <= length - from;
        }
    }

    /** The tape, and the reading of it token by token up to the first fault. */
    private static final class TextReader {
        private static final int END = 0;
        private static final int WORD = 1;
        private static final int NUMBER = 2;
        private static final int SIGN = 3;
        private static final int STRANGE = 4;

        private final byte[] tape = new byte[TAPE_LENGTH];
        private int size = 0;
        /** What kind the token that is looked at is, where it starts and ends, its number. */
        private int token = END;
        private int start = 0;
        private int end = 0;
        private int value = 0;
        /** Where the first token stands that can't, or -1: then nothing more is read. */
        private int fault = NOTHING;

        /** There must be room for one more. */
        private void put(byte b) {
            tape[size] = b;
            size++;
        }

        /** Adds what the tape tells: how many items; but with a fault what it added is no good. */
        private int readInto(Town town) {
            fault = NOTHING;
            end = 0;
            advance();
            int items = 0;
            boolean more = true;
            while (more && items <= TAPE_LENGTH) {
                int kind = kindTold();
                if (kind != NOTHING && town.people < MOST) {
                    readPerson(town, kind);
                } else if (isWord("thing") && town.things < MOST) {
                    readThing(town);
                } else {
                    fail();
                }
                items++;
                more = fault == NOTHING && token == SIGN;
                if (more) {
                    advance();
                }
            }
            if (token != END) {
                fail();
            }
            return items;
        }

        private void readPerson(Town town, int kind) {
            advance();
            int place = readPerhaps("at", PLACES - 1, 0);
            int walk = readPerhaps("walks", PLACES - 1, 1);
            int person = town.addPerson(kind, place);
            town.folk[WALK][person] = walk;
            if (fault == NOTHING && isWord("likes")) {
                advance();
                for (int sort = 0; sort < SORTS; sort++) {
                    town.folk[LIKES + sort][person] = readNumber(MOST_LIKED);
                }
            }
        }

        private void readThing(Town town) {
            advance();
            int sort = readNumber(SORTS - 1);
            int place = readPerhaps("at", PLACES - 1, 0);
            int thick = readPerhaps("thick", MOST_THICK, 100);
            int coat = readPerhaps("paint", MOST_PAINT, 0);
            int owner = readPerhaps("of", town.people - 1, NOTHING);
            int hanger = readPerhaps("on", town.things - 1, NOTHING);
            int thing = town.addThing(sort, place);
            town.iron[THICK][thing] = thick;
            town.iron[PAINT][thing] = coat;
            town.iron[OWNER][thing] = owner;
            town.iron[HANGS][thing] = hanger;
        }

        private int readPerhaps(String word, int most, int without) {
            if (fault != NOTHING || !isWord(word)) {
                return without;
            }
            advance();
            return readNumber(most);
        }

        /** The number that must stand here; 0 with a fault. */
        private int readNumber(int most) {
            if (token != NUMBER || value > most) {
                fail();
            }
            if (fault != NOTHING) {
                return 0;
            }
            int number = value;
            advance();
            return number;
        }

        private void fail() {
            if (fault == NOTHING) {
                fault = start;
            }
        }

        private int kindTold() {
            for (int kind = 0; kind < KINDS; kind++) {
                if (isWord(wordOfKind(kind))) {
                    return kind;
                }
            }
            return NOTHING;
        }

        private static String wordOfKind(int kind) {
            switch (kind) {
                case MODEST:
                    return "modest";
                case RIVAL:
                    return "rival";
                case PRAISER:
                    return "praiser";
                case THIEF:
                    return "thief";
                case CHILD:
                    return "child";
                case BEGGAR:
                    return "beggar";
                default:
                    return "looker";
            }
        }

        private boolean isWord(String word) {
            if (token != WORD || end - start != word.length()) {
                return false;
            }
            for (int i = 0; i < word.length(); i++) {
                if (tape[start + i] != word.charAt(i)) {
                    return false;
                }
            }
            return true;
        }

        /** Goes on to the next token; behind the last one that is the end of the tape. */
        private void advance() {
            start = end;
            while (start < size && tape[start] == ' ') {
                start++;
            }
            end = start;
            if (start >= size) {
                token = END;
            } else if (isLetter(tape[end])) {
                token = WORD;
                while (end < size && isLetter(tape[end])) {
                    end++;
                }
            } else if (isDigit(tape[end])) {
                token = NUMBER;
                value = 0;
                while (end < size && isDigit(tape[end])) {
                    // Above all that a number may be it grows no more, however many digits follow.
                    value = Math.min(MOST_THICK + 1, value * 10 + tape[end] - '0');
                    end++;
                }
            } else {
                token = tape[start] == ';' ? SIGN : STRANGE;
                end++;
            }
        }

        private static boolean isLetter(byte b) {
            return b >= 'a' && b <= 'z';
        }

        private static boolean isDigit(byte b) {
            return b >= '0' && b <= '9';
        }
    }
}
