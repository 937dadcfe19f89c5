import java.util.Arrays;

/** Paid by whoever mended it last: see README.md, and the document that it names. */
public final class LastMender {
    public static final int BAD = -1, NOT = -2, FULL = -3, STATE = -5, VOID = -2000000000;

    private static final int MOST_PEOPLE = 5, MOST_THINGS = 6, MOST_WAYS = 4;
    private static final int NOBODY = NOT, BEST = 4, AHEAD = 4, WHOLE_STATE = 3, OLDEST = 99, MOST_NAILS = 8;
    private static final int MOST_SHELVES = 6, NOTHING_THERE = -11, OTHER_KIND = -12, NO_PLACE = -13, SIZE_BELOW = -14;
    /** The least long: no fraction, no element. */
    private static final long NO_LONG = 1L << 63;

    private final Facts facts = new Facts();
    private final Wear wear = new Wear();
    private final Mind mind = new Mind(facts, wear);
    private final Course course = new Course(facts, wear, mind);
    private final World deed = new World();
    private final World thought = new World();
    private final World kept = new World();
    private final Changes changes = new Changes();
    private final Acts acts = new Acts();
    private final Shelf[] shelves = new Shelf[MOST_SHELVES];
    /** How many things the latest year in deed saw; those behind came since. */
    private int ledThings;
    /** How many people and things the image knows; keptThings is below 0 while there is no image. */
    private int keptPeople, keptThings = -1;

    public LastMender() {
        for (int i = 0; i < MOST_SHELVES; i++) shelves[i] = new Shelf();
    }

    // ---- people, things

    public int person(int skill, int fee) {
        if (skill < 1 || skill > 3 || fee < 0 || fee > 99) return BAD;
        if (facts.people >= MOST_PEOPLE) return FULL;
        return facts.addPerson(skill, fee);
    }

    public int thing(int owner, int wb) {
        return addThing(owner, wb / 100, wb % 100);
    }

    private int addThing(int owner, int worth, int bill) {
        if (!facts.hasPerson(owner) || worth < 0 || worth > 99 || bill < 0 || bill > 99) return BAD;
        if (facts.things >= MOST_THINGS) return FULL;
        int t = facts.addThing(owner, worth, bill);
        deed.makeWhole(t);
        return t;
    }

    public int things(int shelf, int i, int n) {
        Shelf from = shelfAt(shelf);
        if (from == null || n < 1 || n > MOST_THINGS) return BAD;
        if (from.holds == Shelf.NOTHING) return 0;
        if (!from.isRowOf(Shelf.BYTES)) return OTHER_KIND;
        // No place is BAD by itself: from one that is not there, none comes.
        if (i < 0) return 0;
        int came = 0;
        for (int at = i; came < n && at <= from.size - 3; at += 3) {
            if (addThing((int) from.items[at], (int) from.items[at + 1], (int) from.items[at + 2]) < 0) break;
            came++;
        }
        return came;
    }

    public int rule(int what, int v) {
        if (what < 0 || what > 1 || v < 0 || v > (what == 0 ? 9 : 1)) return BAD;
        int was = what == 0 ? facts.forgotten : facts.half;
        if (what == 0) facts.forgotten = v;
        else facts.half = v;
        return was;
    }

    public int mend(int number, int what, int v) {
        if (!facts.mayTell(number, what, v)) return BAD;
        int was = facts.tell(number, what, v);
        if (was != v) changes.note(number, what, was, v);
        return was;
    }

    public int of(int number, int what) {
        if (what >= 0 && what <= 5) return facts.hasPerson(number) ? ofPerson(number, what) : VOID;
        if (what >= 10 && what <= 19) return facts.hasThing(number) ? ofThing(number, what) : VOID;
        return VOID;
    }

    private int ofPerson(int p, int what) {
        switch (what) {
            case 0: return facts.skill[p];
            case 1: return facts.fee[p];
            case 2: return facts.way[p];
            case 3: return deed.purse[p];
            case 4: return deed.billsPaid[p];
            default: return deed.feesPaid[p];
        }
    }

    private int ofThing(int t, int what) {
        switch (what) {
            case 10: return facts.owner[t];
            case 11: return facts.worth[t];
            case 12: return facts.bill[t];
            case 13: return deed.state[t];
            case 14: return facts.next[t];
            case 15: return deed.last[t];
            case 16: return deed.before[t];
            case 17: return deed.age[t];
            case 18: return deed.nailCount[t];
            default: return wear.number(t, deed.state[t], deed.age[t], deed.last[t] != NOBODY);
        }
    }

    public int feed(int letter) {
        if (letter < 0 || letter > 255) return BAD;
        return wear.take(letter) ? wear.tapeLength : FULL;
    }

    public int law() {
        int fault = wear.becomeTape();
        if (fault >= 0) return -100 - fault;
        facts.version++;
        return 1;
    }

    // ---- in deed

    public int fix(int tp) {
        if (tp < 0 || !facts.hasThing(tp / 10) || !facts.hasPerson(tp % 10)) return BAD;
        int t = tp / 10, p = tp % 10;
        deed.mendedBy(t, p, facts.skill[p], facts.fee[p]);
        return deed.state[t];
    }

    public int years(int seed, int n) {
        if (n < 1 || n > 30) return BAD;
        course.sow(seed);
        int broke = 0;
        for (int i = 0; i < n; i++) broke += course.year(deed);
        ledThings = facts.things;
        return broke;
    }

    public int paid(int thing) {
        if (!facts.hasThing(thing)) return BAD;
        return thing < ledThings ? deed.payer[thing] : STATE;
    }

    public int layer(int thing, int i) {
        if (!facts.hasThing(thing) || i < 0 || i >= deed.nailCount[thing]) return BAD;
        return deed.nail(thing, i);
    }

    public int told(int shelf, int thing) {
        Shelf row = shelfAt(shelf);
        if (row == null || !facts.hasThing(thing)) return BAD;
        if (row.holds == Shelf.NOTHING) return NOTHING_THERE;
        if (!row.isRowOf(Shelf.BYTES)) return OTHER_KIND;
        int nails = deed.nailCount[thing], both = Math.min(nails, row.size);
        for (int i = 0; i < both; i++) {
            if (row.items[i] != deed.nail(thing, i)) return i;
        }
        return nails == row.size ? NOT : both;
    }

    public int over(int pq) {
        if (pq < 0 || !facts.hasPerson(pq / 10) || !facts.hasPerson(pq % 10) || pq / 10 == pq % 10) return BAD;
        int often = 0;
        for (int t = 0; t < facts.things; t++) often += deed.oftenOver(t, pq / 10, pq % 10);
        return often;
    }

    // ---- in thought

    private boolean isThought(int ty) {
        return ty >= 0 && ty % 10 <= 6 && facts.hasThing(ty / 10);
    }

    private static boolean isZeroOrOne(int v) {
        return v == 0 || v == 1;
    }

    /** The part of n by 12 to the y, in lowest terms. */
    private static long fraction(long n, int y, int part) {
        long below = 1;
        for (int i = 0; i < y; i++) below *= 12;
        long common = below, rest = Math.abs(n);
        for (int i = 0; i < 100 && rest != 0; i++) {
            long next = common % rest;
            common = rest;
            rest = next;
        }
        if (common == 0) return part == 0 ? n : below;
        return (part == 0 ? n : below) / common;
    }

    public long worth(int ty, int what, int part) {
        if (!isThought(ty) || !isZeroOrOne(what) || !isZeroOrOne(part)) return NO_LONG;
        int t = ty / 10, o = facts.owner[t];
        mind.consider(t, o, facts.skill[o]);
        mind.start(deed.last[t], deed.age[t]);
        mind.think(ty % 10, what == 0 ? facts.way[o] : BEST);
        return fraction(mind.worthAt(deed.state[t]), ty % 10, part);
    }

    public int now(int ty, int what) {
        if (!isThought(ty) || what < 0 || what > 2) return BAD;
        int t = ty / 10, y = ty % 10, o = facts.owner[t];
        if (what == 2) return leastSkill(t, y);
        mind.consider(t, o, facts.skill[o]);
        mind.start(deed.last[t], deed.age[t]);
        mind.think(y, BEST);
        if (what == 0) return mind.mendsAt(deed.state[t]) ? 1 : 0;
        int bits = 0;
        for (int s = 1; s <= WHOLE_STATE; s++) {
            if (mind.mendsAt(s)) bits |= 1 << (s - 1);
        }
        return bits;
    }

    private int leastSkill(int t, int y) {
        for (int skill = 1; skill <= 3; skill++) {
            mind.consider(t, facts.owner[t], skill);
            mind.start(deed.last[t], deed.age[t]);
            mind.think(y, BEST);
            if (mind.mendsAt(deed.state[t])) return skill;
        }
        return NOT;
    }

    public long smith(int ty, int p, int what, int part) {
        if (!isThought(ty) || !facts.hasPerson(p) || p == facts.owner[ty / 10]) return NO_LONG;
        if (!isZeroOrOne(what) || !isZeroOrOne(part)) return NO_LONG;
        int t = ty / 10, y = ty % 10, o = facts.owner[t];
        int mended = Math.max(deed.state[t], facts.skill[p]);
        if (what == 1) return fraction(mind.risk(t, mended, 0, y), y, part);
        mind.consider(t, o, facts.skill[o]);
        mind.start(p, 0);
        mind.think(y, BEST);
        long after = mind.leftAt(mended);
        mind.start(deed.last[t], deed.age[t]);
        mind.think(y, BEST);
        return fraction(after - mind.leftAt(deed.state[t]), y, part);
    }

    public long gift(int ty, int q, int part) {
        if (!isThought(ty) || !facts.hasPerson(q) || q == facts.owner[ty / 10]) return NO_LONG;
        if (!isZeroOrOne(part)) return NO_LONG;
        int t = ty / 10;
        mind.consider(t, q, facts.skill[q]);
        mind.start(deed.last[t], deed.age[t]);
        mind.think(ty % 10, BEST);
        return fraction(mind.worthAt(deed.state[t]), ty % 10, part);
    }

    public long debts(int py, int part) {
        if (py < 0 || py % 10 > 6 || !facts.hasPerson(py / 10) || !isZeroOrOne(part)) return NO_LONG;
        long sum = 0;
        for (int t = 0; t < facts.things; t++) {
            if (deed.last[t] == py / 10) sum += mind.risk(t, deed.state[t], deed.age[t], py % 10);
        }
        return fraction(sum, py % 10, part);
    }

    private void startThought(int seed) {
        thought.become(deed, facts.people, facts.things);
        course.sow(seed);
    }

    public int ruled(int seed, int n, int what) {
        if (n < 1 || n > 20 || !isZeroOrOne(what)) return BAD;
        int inForce = facts.forgotten, best = 0, fewest = -1;
        // What is forgotten moves money alone, unless somebody mends by what pays best.
        int last = facts.anyBest() ? 9 : 0;
        for (int f = 0; f <= last; f++) {
            facts.forgotten = f;
            startThought(seed);
            int broke = 0;
            for (int i = 0; i < n; i++) broke += course.year(thought);
            if (f == 0 || broke < fewest) {
                fewest = broke;
                best = f;
            }
        }
        facts.forgotten = inForce;
        return what == 0 ? best : fewest;
    }

    public int ruined(int seed, int below, int what) {
        if (below < -999 || below > 0 || !isZeroOrOne(what)) return BAD;
        startThought(seed);
        for (int year = 1; year <= 30; year++) {
            course.year(thought);
            for (int p = 0; p < facts.people; p++) {
                if (thought.purse[p] < below) return what == 0 ? year : p;
            }
        }
        return NOT;
    }

    public int image() {
        kept.become(deed, facts.people, facts.things);
        keptPeople = facts.people;
        keptThings = facts.things;
        return keptThings;
    }

    public int back() {
        if (keptThings < 0) return STATE;
        deed.become(kept, keptPeople, keptThings);
        return keptThings;
    }

    public int undo() {
        return changes.takeBack(facts) ? changes.done : STATE;
    }

    public int redo() {
        return changes.doAgain(facts) ? changes.undone() : STATE;
    }

    // ---- acts, shelves

    public int body(int kind) {
        if (kind < 0 || kind >= Acts.KINDS) return BAD;
        return acts.bodies >= Acts.MOST_BODIES ? FULL : acts.add(kind);
    }

    public int act(int body, int act, int x) {
        return acts.perform(body, act, x);
    }

    public int trace(int i) {
        return i >= 0 && i < acts.keptOfTrace() ? acts.ranAt[i] : BAD;
    }

    private Shelf shelfAt(int i) {
        return i >= 0 && i < MOST_SHELVES ? shelves[i] : null;
    }

    public int keep(int shelf, int body) {
        Shelf on = shelfAt(shelf);
        if (on == null || body < -1 || body >= acts.bodies) return BAD;
        if (body < 0) on.holdNothing();
        else on.holdPerson(body);
        return 1;
    }

    public int row(int shelf, int sort, int n) {
        Shelf on = shelfAt(shelf);
        if (on == null || sort < 0 || sort >= Shelf.SORTS || n > Shelf.MOST_ITEMS) return BAD;
        if (n < 0) return SIZE_BELOW;
        on.holdRow(sort, n);
        return 1;
    }

    public int put(int shelf, int i, long v) {
        Shelf on = shelfAt(shelf);
        if (on == null) return BAD;
        int refused = on.refusal(i);
        if (refused != 0) return refused;
        on.items[i] = on.keptOf(v);
        return 1;
    }

    public long element(int shelf, int i) {
        Shelf on = shelfAt(shelf);
        return on == null || on.refusal(i) != 0 ? NO_LONG : on.items[i];
    }

    public int shift(int shelf, int i, int other, int j, int n) {
        Shelf from = shelfAt(shelf), to = shelfAt(other);
        if (from == null || to == null) return BAD;
        if (from.holds == Shelf.NOTHING || to.holds == Shelf.NOTHING) return NOTHING_THERE;
        if (from.holds != Shelf.ROW || !to.isRowOf(from.sort)) return OTHER_KIND;
        if (!from.hasPlaces(i, n) || !to.hasPlaces(j, n)) return NO_PLACE;
        System.arraycopy(from.items, i, to.items, j, n);
        return n;
    }

    public int taken(int shelf, int k) {
        Shelf on = shelfAt(shelf);
        if (on == null || k < 0 || k >= Acts.KINDS) return BAD;
        if (on.holds == Shelf.NOTHING) return NOTHING_THERE;
        if (on.holds != Shelf.PERSON || !acts.isOfKind(on.body, k)) return OTHER_KIND;
        return acts.kindOf(on.body);
    }

    public int count(int what) {
        switch (what) {
            case 0: return facts.people;
            case 1: return facts.things;
            case 2: return deed.whole;
            case 3: return deed.broken;
            case 4: return wear.tapeLength;
            case 5: return changes.done;
            case 6: return acts.bodies;
            case 7: return acts.ran;
            default: return BAD;
        }
    }

    /** What is told of people, things and the rule: no year changes it. */
    private static final class Facts {
        int people, things, forgotten, half;
        /** Another number behind all that may change what BEST does, the rule aside. */
        int version = 1;
        final int[] skill = new int[MOST_PEOPLE], fee = new int[MOST_PEOPLE], way = new int[MOST_PEOPLE];
        final int[] owner = new int[MOST_THINGS], worth = new int[MOST_THINGS], bill = new int[MOST_THINGS];
        final int[] next = new int[MOST_THINGS];

        boolean hasPerson(int p) {
            return p >= 0 && p < people;
        }

        boolean hasThing(int t) {
            return t >= 0 && t < things;
        }

        int addPerson(int itsSkill, int itsFee) {
            skill[people] = itsSkill;
            fee[people] = itsFee;
            return people++;
        }

        int addThing(int itsOwner, int itsWorth, int itsBill) {
            owner[things] = itsOwner;
            worth[things] = itsWorth;
            bill[things] = itsBill;
            next[things] = things;
            return things++;
        }

        boolean mayTell(int number, int what, int v) {
            switch (what) {
                case 0: return hasPerson(number) && v >= 1 && v <= 3;
                case 1: return hasPerson(number) && v >= 0 && v <= 99;
                case 2: return hasPerson(number) && v >= 0 && v <= MOST_WAYS;
                case 3:
                case 4: return hasThing(number) && v >= 0 && v <= 99;
                case 5: return hasThing(number) && v >= 0 && v < MOST_THINGS;
                default: return false;
            }
        }

        /** What it was; asked only where mayTell says so. */
        int tell(int number, int what, int v) {
            int[] row = rowOf(what);
            int was = row[number];
            row[number] = v;
            if (was != v) version++;
            return was;
        }

        private int[] rowOf(int what) {
            switch (what) {
                case 0: return skill;
                case 1: return fee;
                case 2: return way;
                case 3: return worth;
                case 4: return bill;
                default: return next;
            }
        }

        boolean isForgotten(int years) {
            return forgotten > 0 && years >= forgotten;
        }

        boolean anyBest() {
            for (int t = 0; t < things; t++) {
                if (way[owner[t]] == BEST) return true;
            }
            return false;
        }
    }

    /** How all stands: in deed, in thought, or in the image. */
    private static final class World {
        int whole, broken;
        final int[] state = new int[MOST_THINGS], last = new int[MOST_THINGS], before = new int[MOST_THINGS];
        final int[] age = new int[MOST_THINGS], nailCount = new int[MOST_THINGS];
        final int[] nails = new int[MOST_THINGS * MOST_NAILS];
        final int[] purse = new int[MOST_PEOPLE], billsPaid = new int[MOST_PEOPLE], feesPaid = new int[MOST_PEOPLE];
        /** Who paid for a thing in the latest year; an image leaves it as it is. */
        final int[] payer = new int[MOST_THINGS];

        void become(World other, int people, int things) {
            whole = other.whole;
            broken = other.broken;
            System.arraycopy(other.state, 0, state, 0, things);
            System.arraycopy(other.last, 0, last, 0, things);
            System.arraycopy(other.before, 0, before, 0, things);
            System.arraycopy(other.age, 0, age, 0, things);
            System.arraycopy(other.nailCount, 0, nailCount, 0, things);
            System.arraycopy(other.nails, 0, nails, 0, things * MOST_NAILS);
            System.arraycopy(other.purse, 0, purse, 0, people);
            System.arraycopy(other.billsPaid, 0, billsPaid, 0, people);
            System.arraycopy(other.feesPaid, 0, feesPaid, 0, people);
        }

        /** As new, but for its layers of nails, which stay. */
        void makeWhole(int t) {
            state[t] = WHOLE_STATE;
            last[t] = NOBODY;
            before[t] = NOBODY;
            age[t] = 0;
        }

        void mendedBy(int t, int p, int skill, int fee) {
            state[t] = Math.max(state[t], skill);
            before[t] = last[t];
            last[t] = p;
            age[t] = 0;
            purse[p] -= fee;
            feesPaid[p] += fee;
            driveNail(t, p);
        }

        private void driveNail(int t, int p) {
            int first = t * MOST_NAILS;
            if (nailCount[t] == MOST_NAILS) {
                System.arraycopy(nails, first + 1, nails, first, MOST_NAILS - 1);
                nailCount[t]--;
            }
            nails[first + nailCount[t]] = p;
            nailCount[t]++;
        }

        int nail(int t, int i) {
            return nails[t * MOST_NAILS + i];
        }

        int oftenOver(int t, int p, int q) {
            int often = 0;
            for (int i = 1; i < nailCount[t]; i++) {
                if (nail(t, i) == p && nail(t, i - 1) == q) often++;
            }
            return often;
        }

        void pays(int p, int bill) {
            purse[p] -= bill;
            billsPaid[p] += bill;
        }
    }

    /** Years by draws, in whichever world. */
    private static final class Course {
        private final Facts facts;
        private final Wear wear;
        private final Mind mind;
        private int z;

        Course(Facts facts, Wear wear, Mind mind) {
            this.facts = facts;
            this.wear = wear;
            this.mind = mind;
        }

        void sow(int seed) {
            z = seed;
        }

        /** How many broke. */
        int year(World w) {
            for (int t = 0; t < facts.things; t++) {
                int o = facts.owner[t], way = facts.way[o];
                boolean mends = way == BEST ? mind.mendsInDeed(w, t) : w.state[t] <= way;
                if (mends) w.mendedBy(t, o, facts.skill[o], facts.fee[o]);
            }
            for (int t = 0; t < facts.things; t++) {
                z = z * 1103515245 + 12345;
                if ((z >>> 8) % 12 < wear.number(t, w.state[t], w.age[t], w.last[t] != NOBODY)) w.state[t]--;
            }
            int broke = 0;
            for (int t = 0; t < facts.things; t++) {
                if (w.state[t] <= 0) {
                    breaks(w, t);
                    broke++;
                } else {
                    w.purse[facts.owner[t]] += facts.worth[t];
                    w.age[t] = Math.min(w.age[t] + 1, OLDEST);
                    w.payer[t] = NOT;
                }
            }
            w.whole += facts.things - broke;
            w.broken += broke;
            return broke;
        }

        private void breaks(World w, int t) {
            int next = facts.next[t];
            if (next != t && facts.hasThing(next) && w.state[next] > 1) w.state[next]--;
            bills(w, t);
            w.makeWhole(t);
        }

        private void bills(World w, int t) {
            int last = w.last[t], before = w.before[t], bill = facts.bill[t];
            if (last == NOBODY || facts.isForgotten(w.age[t])) {
                w.payer[t] = facts.owner[t];
                w.pays(facts.owner[t], bill);
                return;
            }
            int half = facts.half == 1 && before != NOBODY ? bill / 2 : 0;
            if (half > 0) w.pays(before, half);
            w.pays(last, bill - half);
            w.payer[t] = last;
        }
    }

    /**
     * What is thought of one thing alone. All means are kept as whole numbers: a mean over
     * y years times 12 to the y.
     */
    private static final class Mind {
        /** Whose the last nail is, for the one who thinks. */
        private static final int NONE = 0, OTHERS = 1, OWN = 2;
        /**
         * Pasts of a thing: as it is now; mended by oneself k years ago (MENDED + 2 k); broken k
         * years ago (BROKE + 2 k). So a year makes a past 2 older, and those met are in one run.
         */
        private static final int AS_IT_IS = 0, MENDED = 1, BROKE = 2, PASTS = 14;
        private static final int MEMORY = 2048;

        private final Facts facts;
        private final Wear wear;
        private int thing, who, skill, fee, lastIs, age, way;
        /** Years gone by ahead of the one that is thought of, and 12 to the years behind it. */
        private int gone;
        private long unit;
        private long[] here = new long[PASTS * 4], behind = new long[PASTS * 4];
        private final long[] left = new long[4], mended = new long[4];
        /** What BEST was found to do in deed: by a key of all that it hangs on, the answer in the lowest bit. */
        private final long[] memory = new long[MEMORY];

        Mind(Facts facts, Wear wear) {
            this.facts = facts;
            this.wear = wear;
        }

        /** Who thinks of which thing as its owner, and how well they mend. */
        void consider(int t, int itsOwner, int itsSkill) {
            thing = t;
            who = itsOwner;
            skill = itsSkill;
            fee = facts.fee[itsOwner];
        }

        void start(int last, int itsAge) {
            lastIs = sideOf(last, who);
            age = itsAge;
        }

        private static int sideOf(int last, int owner) {
            if (last == NOBODY) return NONE;
            return last == owner ? OWN : OTHERS;
        }

        /** What leaving and mending it in the first year are worth in each state, by a way in the years behind. */
        void think(int years, int itsWay) {
            way = itsWay;
            Arrays.fill(behind, 0);
            Arrays.fill(left, 0);
            Arrays.fill(mended, 0);
            unit = 1;
            for (int ahead = 1; ahead <= years; ahead++) {
                gone = years - ahead;
                for (int s = WHOLE_STATE; s >= 1; s--) {
                    mended[s] = s < skill ? mended[skill] : goOn(MENDED, s) - fee * unit * 12;
                }
                for (int past = AS_IT_IS; past <= MENDED + 2 * gone; past++) {
                    if (past == MENDED) continue;
                    for (int s = 1; s <= WHOLE_STATE; s++) {
                        left[s] = goOn(past, s);
                        here[past * 4 + s] = worthAt(s);
                    }
                }
                turnPage();
            }
        }

        private void turnPage() {
            long[] done = here;
            here = behind;
            behind = done;
            unit *= 12;
        }

        /** What this year and those behind it are worth from a past and a state on, once all mending is done. */
        private long goOn(int past, int s) {
            int side = lastIs, old = Math.min(age + gone, OLDEST), older = AS_IT_IS;
            if (past != AS_IT_IS) {
                side = past % 2 == MENDED ? OWN : NONE;
                old = (past - 1) / 2;
                older = past + 2;
            }
            long has = unit * facts.worth[thing];
            long same = has + behind[older * 4 + s];
            long less;
            if (s > 1) {
                less = has + behind[older * 4 + s - 1];
            } else {
                boolean anotherPays = side == OTHERS && !facts.isForgotten(old);
                less = behind[BROKE * 4 + WHOLE_STATE] - (anotherPays ? 0 : unit * facts.bill[thing]);
            }
            int worn = wear.number(thing, s, old, side != NONE);
            return worn * less + (12 - worn) * same;
        }

        long leftAt(int s) {
            return left[s];
        }

        boolean mendsAt(int s) {
            return way == BEST ? mended[s] > left[s] : s <= way;
        }

        long worthAt(int s) {
            return mendsAt(s) ? mended[s] : left[s];
        }

        /** Whether BEST mends a thing as it stands in a world, some years ahead being looked at. */
        boolean mendsInDeed(World w, int t) {
            int o = facts.owner[t], s = w.state[t];
            long key = facts.version * 10L + facts.forgotten;
            key = (key * MOST_THINGS + t) * 3 + sideOf(w.last[t], o);
            key = (key * (OLDEST + 1) + w.age[t]) * 3 + s - 1;
            int place = (int) (key % MEMORY);
            if (memory[place] >> 1 == key) return (memory[place] & 1) == 1;
            consider(t, o, facts.skill[o]);
            start(w.last[t], w.age[t]);
            think(AHEAD, BEST);
            memory[place] = key * 2 + (mendsAt(s) ? 1 : 0);
            return mendsAt(s);
        }

        /** The mean of a bill that its last mender pays as it breaks first, nobody mending it. */
        long risk(int t, int s, int itsAge, int years) {
            long one = s == 1 ? 1 : 0, two = s == 2 ? 1 : 0, three = s == 3 ? 1 : 0, sum = 0;
            for (int i = 0; i < years; i++) {
                int old = Math.min(itsAge + i, OLDEST);
                long wornOne = one * wear.number(t, 1, old, true);
                long wornTwo = two * wear.number(t, 2, old, true);
                long wornThree = three * wear.number(t, 3, old, true);
                sum = sum * 12 + (facts.isForgotten(old) ? 0 : wornOne * facts.bill[t]);
                one = one * 12 - wornOne + wornTwo;
                two = two * 12 - wornTwo + wornThree;
                three = three * 12 - wornThree;
            }
            return sum;
        }
    }

    /** Steps of a law, from left to right, each sign behind what it works on. */
    private static final class Steps {
        /** A byte makes one step at most, and each line ends with one more. */
        private static final int MOST = 2 * Wear.MOST_TAPE + 2;
        /** Signs as in the text; beside them any number, the sign of one below 0, the end of a condition and of a line. */
        static final int NUMBER = '0', MINUS = '~', ASKED = '?', END = ';';

        int size;
        final int[] sign = new int[MOST], with = new int[MOST];

        void add(int itsSign, int itsWith) {
            if (size >= MOST) return;
            sign[size] = itsSign;
            with[size] = itsWith;
            size++;
        }

        void become(Steps other) {
            size = other.size;
            System.arraycopy(other.sign, 0, sign, 0, size);
            System.arraycopy(other.with, 0, with, 0, size);
        }
    }

    /** Reads a text into steps, or tells the first place with which no text goes on. */
    private static final class Reader {
        private static final int LEVELS = 5, COMPARING = 2, MOST_OPEN = 6, MOST_DIGITS = 4;

        private int[] text = new int[0];
        private int length, at;
        final Steps steps = new Steps();

        /** The fault, or -1. */
        int read(int[] tape, int tapeLength) {
            text = tape;
            length = Math.min(tapeLength, tape.length);
            at = 0;
            steps.size = 0;
            for (int line = 0; line <= length; line++) {
                if (!line()) return at;
                if (at >= length) return -1;
                if (next() != ';') return at;
                at++;
            }
            return at;
        }

        private int next() {
            return at >= 0 && at < length ? text[at] : -1;
        }

        private boolean line() {
            if (!binary(0, 0)) return false;
            if (next() == '?') {
                at++;
                steps.add(Steps.ASKED, 0);
                if (!binary(0, 0)) return false;
            }
            steps.add(Steps.END, 0);
            return true;
        }

        /** E, A, B, S, P are levels 0 to 4; behind them comes O. */
        private boolean binary(int level, int open) {
            if (level >= LEVELS) return operand(open);
            if (!binary(level + 1, open)) return false;
            int most = level == COMPARING ? 1 : length;
            for (int i = 0; i < most; i++) {
                int sign = next();
                if (levelOf(sign) != level) return true;
                at++;
                if (!binary(level + 1, open)) return false;
                steps.add(sign, 0);
            }
            return true;
        }

        private static int levelOf(int sign) {
            switch (sign) {
                case '|': return 0;
                case '&': return 1;
                case '<':
                case '=':
                case '>': return COMPARING;
                case '+':
                case '-': return 3;
                case '*':
                case '/':
                case '%': return 4;
                default: return LEVELS;
            }
        }

        private boolean operand(int open) {
            int sign = next();
            if (sign >= '0' && sign <= '9') return number();
            if (sign == 's' || sign == 't' || sign == 'a' || sign == 'l') {
                at++;
                steps.add(sign, 0);
                return true;
            }
            if (open >= MOST_OPEN || (sign != '(' && sign != '!' && sign != '-')) return false;
            at++;
            if (sign == '(') {
                if (!binary(0, open + 1) || next() != ')') return false;
                at++;
                return true;
            }
            if (!operand(open + 1)) return false;
            steps.add(sign == '-' ? Steps.MINUS : sign, 0);
            return true;
        }

        private boolean number() {
            int value = 0;
            for (int i = 0; i < MOST_DIGITS && next() >= '0' && next() <= '9'; i++) {
                value = value * 10 + next() - '0';
                at++;
            }
            steps.add(Steps.NUMBER, value);
            return true;
        }
    }

    /** The tape, the law, and in how many of twelve years a thing wears. */
    private static final class Wear {
        static final int MOST_TAPE = 120;
        /** Each of five levels of signs may hold one number back, in each of seven brackets. */
        private static final int MOST_HELD = 48;

        int tapeLength;
        private final int[] tape = new int[MOST_TAPE];
        private final Reader reader = new Reader();
        private final Steps law = new Steps();
        private final int[] held = new int[MOST_HELD];
        /** One more than the number of a thing in a state, of an age, with or without a last mender; 0: not asked yet. */
        private final byte[] found = new byte[MOST_THINGS * WHOLE_STATE * (OLDEST + 1) * 2];

        boolean take(int letter) {
            if (tapeLength >= MOST_TAPE) return false;
            tape[tapeLength] = letter;
            tapeLength++;
            return true;
        }

        /** The fault, or -1: then the tape is the law. */
        int becomeTape() {
            int fault = reader.read(tape, tapeLength);
            tapeLength = 0;
            if (fault < 0) {
                law.become(reader.steps);
                Arrays.fill(found, (byte) 0);
            }
            return fault;
        }

        int number(int t, int s, int age, boolean isLed) {
            if (s < 1 || s > WHOLE_STATE || age < 0 || age > OLDEST || t < 0 || t >= MOST_THINGS) return 0;
            int place = (((t * WHOLE_STATE + s - 1) * (OLDEST + 1)) + age) * 2 + (isLed ? 1 : 0);
            if (found[place] == 0) {
                int n = law.size == 0 ? 7 - 2 * s : workOut(t, s, age, isLed ? 1 : 0);
                found[place] = (byte) (Math.max(0, Math.min(12, n)) + 1);
            }
            return found[place] - 1;
        }

        private int workOut(int t, int s, int age, int led) {
            int n = 0;
            boolean skips = false;
            for (int i = 0; i < law.size; i++) {
                int sign = law.sign[i];
                if (skips) {
                    skips = sign != Steps.END;
                    continue;
                }
                if (n >= MOST_HELD) return 0;
                switch (sign) {
                    case Steps.NUMBER: held[n++] = law.with[i]; break;
                    case 's': held[n++] = s; break;
                    case 't': held[n++] = t; break;
                    case 'a': held[n++] = age; break;
                    case 'l': held[n++] = led; break;
                    case Steps.END: return n > 0 ? held[n - 1] : 0;
                    case Steps.ASKED:
                        if (n < 1) return 0;
                        n--;
                        skips = held[n] == 0;
                        break;
                    case Steps.MINUS:
                    case '!':
                        if (n < 1) return 0;
                        held[n - 1] = sign == Steps.MINUS ? -held[n - 1] : held[n - 1] == 0 ? 1 : 0;
                        break;
                    default:
                        if (n < 2) return 0;
                        n--;
                        held[n - 1] = joined(sign, held[n - 1], held[n]);
                }
            }
            return 0;
        }

        private static int joined(int sign, int x, int y) {
            switch (sign) {
                case '|': return x != 0 || y != 0 ? 1 : 0;
                case '&': return x != 0 && y != 0 ? 1 : 0;
                case '<': return x < y ? 1 : 0;
                case '=': return x == y ? 1 : 0;
                case '>': return x > y ? 1 : 0;
                case '+': return x + y;
                case '-': return x - y;
                case '*': return x * y;
                case '/': return y == 0 ? 0 : x / y;
                default: return y == 0 ? 0 : x % y;
            }
        }
    }

    /** Changes that can be undone, the oldest first; behind them those that can be done again. */
    private static final class Changes {
        private static final int MOST = 40;

        int done;
        private int all;
        private final int[] number = new int[MOST], what = new int[MOST], was = new int[MOST], became = new int[MOST];

        void note(int itsNumber, int itsWhat, int itWas, int itBecame) {
            if (done == MOST) forgetOldest();
            number[done] = itsNumber;
            what[done] = itsWhat;
            was[done] = itWas;
            became[done] = itBecame;
            done++;
            all = done;
        }

        private void forgetOldest() {
            System.arraycopy(number, 1, number, 0, MOST - 1);
            System.arraycopy(what, 1, what, 0, MOST - 1);
            System.arraycopy(was, 1, was, 0, MOST - 1);
            System.arraycopy(became, 1, became, 0, MOST - 1);
            done--;
        }

        int undone() {
            return all - done;
        }

        boolean takeBack(Facts facts) {
            if (done <= 0) return false;
            done--;
            facts.tell(number[done], what[done], was[done]);
            return true;
        }

        boolean doAgain(Facts facts) {
            if (undone() <= 0) return false;
            facts.tell(number[done], what[done], became[done]);
            done++;
            return true;
        }
    }

    /** People's ways by call, and the trace of what ran. */
    private static final class Acts {
        static final int KINDS = 8, MOST_BODIES = 50;
        private static final int ACTS = 4, MOST_TRACE = 24, DEEPEST = 40;
        private static final int MENDS = 0, PAYS = 1, LEAVES = 2, TELLS = 3;
        /** The KIND above each KIND; PERSON has none. */
        private static final int[] ABOVE = {-1, 0, 0, 2, 1, 3, 0, 4};
        /** The body that a KIND has for each act (mends, pays, leaves, tells); 0: none of its own. */
        private static final int[] OWN_BODY = {
            1, 10, 11, 2,
            20, 0, 0, 0,
            0, 30, 0, 0,
            0, 41, 40, 0,
            0, 0, 50, 0,
            0, 0, 0, 60,
            70, 0, 0, 0,
            0, 80, 0, 81};

        int bodies, ran;
        final int[] ranAt = new int[MOST_TRACE];
        private final int[] kinds = new int[MOST_BODIES];
        /** Whose act it is now. */
        private int self, selfKind;

        int add(int kind) {
            kinds[bodies] = kind;
            return bodies++;
        }

        int kindOf(int body) {
            return body >= 0 && body < bodies ? kinds[body] : 0;
        }

        boolean isOfKind(int body, int kind) {
            int k = kindOf(body);
            for (int i = 0; i < KINDS && k >= 0; i++) {
                if (k == kind) return true;
                k = ABOVE[k];
            }
            return false;
        }

        int keptOfTrace() {
            return Math.min(ran, MOST_TRACE);
        }

        int perform(int body, int act, int x) {
            ran = 0;
            if (body < 0 || body >= bodies || act < 0 || act >= ACTS) return 0;
            self = body;
            selfKind = kinds[body];
            return run(selfKind, act, x, 0);
        }

        /** Runs the act's body of a KIND or of the next KIND above that has one. */
        private int run(int from, int act, int x, int depth) {
            int kind = from;
            for (int i = 0; i < KINDS && kind >= 0 && OWN_BODY[kind * ACTS + act] == 0; i++) kind = ABOVE[kind];
            if (kind < 0 || depth > DEEPEST) return 0;
            int own = OWN_BODY[kind * ACTS + act], above = ABOVE[kind], deeper = depth + 1;
            begin(own);
            switch (own) {
                case 1: return x + self;
                case 10: return run(selfKind, MENDS, x, deeper) * 2;
                case 11: return x ^ self;
                case 2: return run(selfKind, PAYS, x, deeper) - run(selfKind, LEAVES, 1, deeper);
                case 20: return run(above, MENDS, x, deeper) + 3;
                case 30: return -run(above, PAYS, x, deeper);
                case 40: return run(above, LEAVES, x, deeper) * 3;
                case 41: return run(above, PAYS, x + 1, deeper);
                case 50: return run(above, LEAVES, x, deeper) - run(selfKind, MENDS, 2, deeper);
                case 60: return run(above, TELLS, x, deeper) ^ 5;
                case 70: return run(above, MENDS, x, deeper) * 2;
                case 80: return run(above, PAYS, x, deeper) + run(selfKind, LEAVES, 2, deeper);
                case 81: return run(above, TELLS, x, deeper) - 1;
                default: return 0;
            }
        }

        private void begin(int own) {
            if (ran < MOST_TRACE) ranAt[ran] = own;
            ran++;
        }
    }

    /** A place that holds nothing, a person, or a row. */
    private static final class Shelf {
        static final int NOTHING = 0, PERSON = 1, ROW = 2;
        static final int BYTES = 0, SHORTS = 1, INTS = 2, LONGS = 3, SORTS = 5, MOST_ITEMS = 60;

        int holds, body, sort, size;
        final long[] items = new long[MOST_ITEMS];

        void holdNothing() {
            holds = NOTHING;
        }

        void holdPerson(int itsBody) {
            holds = PERSON;
            body = itsBody;
        }

        void holdRow(int itsSort, int itsSize) {
            holds = ROW;
            sort = itsSort;
            size = itsSize;
            Arrays.fill(items, 0);
        }

        boolean isRowOf(int itsSort) {
            return holds == ROW && sort == itsSort;
        }

        boolean hasPlaces(int from, int n) {
            return n >= 0 && n <= size && from >= 0 && from <= size - n;
        }

        /** Why there is no element i; 0 if there is one. */
        int refusal(int i) {
            if (holds == NOTHING) return NOTHING_THERE;
            if (holds != ROW) return OTHER_KIND;
            return i >= 0 && i < size ? 0 : NO_PLACE;
        }

        long keptOf(long v) {
            switch (sort) {
                case BYTES: return (byte) v;
                case SHORTS: return (short) v;
                case INTS: return (int) v;
                case LONGS: return v;
                default: return v != 0 ? 1 : 0;
            }
        }
    }
}
