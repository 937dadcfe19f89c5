import java.math.BigInteger;
import java.util.ArrayList;
import java.util.Arrays;
import java.util.HashMap;
import java.util.List;
import java.util.Map;

/**
 * The whole document told once more, with the Java library and by plain recursion. It bears the face
 * of the class, so that a test under ../shared/tests can be tried against it, too (as a LastMender).
 */
final class WholeModel {
    static final int BAD = -1, NOT = -2, FULL = -3, STATE = -5, VOID = -2000000000;
    static final long NO = Long.MIN_VALUE;

    static final class Person { int skill, fee, way; }
    static final class Thing { int owner, worth, bill, next; }

    /** What an image keeps. */
    static final class Stand {
        List<int[]> things = new ArrayList<>();   // state, last, before, age
        List<List<Integer>> nails = new ArrayList<>();
        List<int[]> purses = new ArrayList<>();   // purse, bills, fees
        int whole, broken;

        Stand copy() {
            Stand c = new Stand();
            for (int[] a : things) c.things.add(a.clone());
            for (List<Integer> l : nails) c.nails.add(new ArrayList<>(l));
            for (int[] a : purses) c.purses.add(a.clone());
            c.whole = whole;
            c.broken = broken;
            return c;
        }
    }

    final List<Person> people = new ArrayList<>();
    final List<Thing> things = new ArrayList<>();
    Stand deed = new Stand(), image;
    /** F and HALF. */
    final int[] rules = new int[2];
    int z;
    int[] led = {};
    final StringBuilder tape = new StringBuilder();
    String law = "7-2*s";
    final Map<List<Object>, Integer> numbers = new HashMap<>();
    final List<int[]> undoable = new ArrayList<>(), redoable = new ArrayList<>();
    final List<Acting> bodies = new ArrayList<>();
    List<Integer> ran = new ArrayList<>();
    final Object[] shelves = new Object[6];

    public int person(int skill, int fee) {
        if (skill < 1 || 3 < skill || fee < 0 || 99 < fee) return BAD;
        if (people.size() == 5) return FULL;
        Person p = new Person();
        p.skill = skill;
        p.fee = fee;
        people.add(p);
        deed.purses.add(new int[3]);
        return people.size() - 1;
    }

    public int thing(int owner, int wb) {
        if (wb < 0 || wb > 9999 || owner < 0 || owner >= people.size()) return BAD;
        if (things.size() == 6) return FULL;
        Thing t = new Thing();
        t.owner = owner;
        t.worth = wb / 100;
        t.bill = wb % 100;
        t.next = things.size();
        things.add(t);
        deed.things.add(new int[] {3, -2, -2, 0});
        deed.nails.add(new ArrayList<>());
        return t.next;
    }

    static final class Row { int sort; long[] of; }

    public int things(int shelf, int i, int n) {
        if (shelf < 0 || shelf > 5 || n < 1 || n > 6) return BAD;
        if (shelves[shelf] == null) return 0;
        if (!(shelves[shelf] instanceof Row r) || r.sort != 0) return -12;
        int came = 0;
        while (came < n) {
            long at = (long) i + 3L * came;
            if (at < 0 || at + 2 >= r.of.length) break;
            long o = r.of[(int) at], w = r.of[(int) at + 1], b = r.of[(int) at + 2];
            if (w < 0 || w > 99 || b < 0 || b > 99 || o < 0) break;
            if (thing((int) o, (int) (100 * w + b)) < 0) break;
            came++;
        }
        return came;
    }

    public int rule(int what, int v) {
        if (what < 0 || what > 1 || v < 0 || v > (what == 0 ? 9 : 1)) return BAD;
        int was = rules[what];
        rules[what] = v;
        return was;
    }

    int value(int number, int what) {
        switch (what) {
            case 0: return people.get(number).skill;
            case 1: return people.get(number).fee;
            case 2: return people.get(number).way;
            case 3: return things.get(number).worth;
            case 4: return things.get(number).bill;
            default: return things.get(number).next;
        }
    }

    void tell(int number, int what, int v) {
        switch (what) {
            case 0: people.get(number).skill = v; break;
            case 1: people.get(number).fee = v; break;
            case 2: people.get(number).way = v; break;
            case 3: things.get(number).worth = v; break;
            case 4: things.get(number).bill = v; break;
            default: things.get(number).next = v;
        }
    }

    public int mend(int number, int what, int v) {
        if (what < 0 || what > 5 || number < 0 || number >= (what < 3 ? people.size() : things.size())) return BAD;
        int[] least = {1, 0, 0, 0, 0, 0}, most = {3, 99, 4, 99, 99, 5};
        if (v < least[what] || v > most[what]) return BAD;
        int was = value(number, what);
        if (was == v) return was;
        tell(number, what, v);
        undoable.add(new int[] {number, what, was, v});
        if (undoable.size() > 40) undoable.remove(0);
        redoable.clear();
        return was;
    }

    public int undo() {
        if (undoable.isEmpty()) return STATE;
        int[] c = undoable.remove(undoable.size() - 1);
        tell(c[0], c[1], c[2]);
        redoable.add(c);
        return undoable.size();
    }

    public int redo() {
        if (redoable.isEmpty()) return STATE;
        int[] c = redoable.remove(redoable.size() - 1);
        tell(c[0], c[1], c[3]);
        undoable.add(c);
        return redoable.size();
    }

    public int of(int number, int what) {
        if (number < 0 || what < 0) return VOID;
        if (what <= 5) {
            if (number >= people.size()) return VOID;
            Person p = people.get(number);
            int[] purse = deed.purses.get(number), all = {p.skill, p.fee, p.way, purse[0], purse[1], purse[2]};
            return all[what];
        }
        if (what < 10 || what > 19 || number >= things.size()) return VOID;
        Thing t = things.get(number);
        int[] d = deed.things.get(number);
        int[] all = {t.owner, t.worth, t.bill, d[0], t.next, d[1], d[2], d[3], deed.nails.get(number).size(),
            number(number, d[0], d[3], d[1])};
        return all[what - 10];
    }

    public int feed(int letter) {
        if (letter < 0 || letter > 255) return BAD;
        if (tape.length() == 120) return FULL;
        tape.append((char) letter);
        return tape.length();
    }

    public int law() {
        String text = tape.toString();
        tape.setLength(0);
        int f = fault(text);
        if (f >= 0) return -100 - f;
        law = text;
        return 1;
    }

    /** A scanner with a stack of what is open; -1: a TEXT. */
    static int fault(String x) {
        ArrayList<Character> open = new ArrayList<>();
        ArrayList<Boolean> compared = new ArrayList<>(List.of(false));
        boolean wants = true, asked = false;
        int digits = 0;
        for (int i = 0; i < x.length(); i++) {
            char c = x.charAt(i);
            int top = compared.size() - 1;
            if (wants) {
                if (c == '!' || c == '-' || c == '(') {
                    if (open.size() == 6) return i;
                    open.add(c);
                    if (c == '(') compared.add(false);
                } else if (c >= '0' && c <= '9' || "stal".indexOf(c) >= 0) {
                    digits = c <= '9' ? 1 : 0;
                    wants = false;
                    close(open);
                } else {
                    return i;
                }
                continue;
            }
            if (c >= '0' && c <= '9') {
                if (digits == 0 || digits == 4) return i;
                digits++;
                continue;
            }
            digits = 0;
            switch (c) {
                case '+': case '-': case '*': case '/': case '%': wants = true; break;
                case '<': case '=': case '>':
                    if (compared.get(top)) return i;
                    compared.set(top, true);
                    wants = true;
                    break;
                case '&': case '|': compared.set(top, false); wants = true; break;
                case ')':
                    if (open.isEmpty()) return i;
                    open.remove(open.size() - 1);
                    compared.remove(top);
                    close(open);
                    break;
                case '?':
                    if (!open.isEmpty() || asked) return i;
                    asked = true;
                    compared.set(0, false);
                    wants = true;
                    break;
                case ';':
                    if (!open.isEmpty()) return i;
                    asked = false;
                    compared.set(0, false);
                    wants = true;
                    break;
                default: return i;
            }
        }
        return wants || !open.isEmpty() ? x.length() : -1;
    }

    private static void close(ArrayList<Character> open) {
        while (!open.isEmpty() && open.get(open.size() - 1) != '(') open.remove(open.size() - 1);
    }

    int number(int t, int s, int age, int last) {
        int l = last >= 0 ? 1 : 0;
        return numbers.computeIfAbsent(List.of(law, s, t, age, l),
            k -> Math.max(0, Math.min(12, new Value(law, s, t, age, l).text())));
    }

    /** The value of a text by its parts: splits it at the sign that binds least, the last one first. */
    static final class Value {
        final String law;
        final int s, t, a, l;

        Value(String law, int s, int t, int a, int l) {
            this.law = law;
            this.s = s;
            this.t = t;
            this.a = a;
            this.l = l;
        }

        int text() {
            for (String line : law.split(";")) {
                int q = line.indexOf('?');
                if (q < 0) return of(line);
                if (of(line.substring(0, q)) != 0) return of(line.substring(q + 1));
            }
            return 0;
        }

        int of(String e) {
            for (String signs : new String[] {"|", "&", "<=>", "+-", "*/%"}) {
                int at = lastSign(e, signs);
                if (at > 0) return join(e.charAt(at), of(e.substring(0, at)), of(e.substring(at + 1)));
            }
            if (e.charAt(0) == '!') return of(e.substring(1)) == 0 ? 1 : 0;
            if (e.charAt(0) == '-') return -of(e.substring(1));
            if (e.charAt(0) == '(') return of(e.substring(1, e.length() - 1));
            switch (e) {
                case "s": return s;
                case "t": return t;
                case "a": return a;
                case "l": return l;
                default: return Integer.parseInt(e);
            }
        }

        /** The last of some signs outside brackets that stands between two operands. */
        static int lastSign(String e, String signs) {
            int depth = 0;
            for (int i = e.length() - 1; i > 0; i--) {
                char c = e.charAt(i);
                if (c == ')') depth++;
                if (c == '(') depth--;
                if (depth != 0 || signs.indexOf(c) < 0) continue;
                char before = e.charAt(i - 1);
                if (before == ')' || Character.isLetterOrDigit(before)) return i;
            }
            return -1;
        }

        static int join(char c, int x, int y) {
            switch (c) {
                case '|': return x != 0 || y != 0 ? 1 : 0;
                case '&': return x != 0 && y != 0 ? 1 : 0;
                case '<': return x < y ? 1 : 0;
                case '=': return x == y ? 1 : 0;
                case '>': return x > y ? 1 : 0;
                case '+': return x + y;
                case '-': return x - y;
                case '*': return x * y;
                case '/': return y == 0 ? 0 : (int) ((long) x / y);
                default: return y == 0 ? 0 : (int) ((long) x % y);
            }
        }
    }

    // ---- in deed

    void mended(Stand w, int t, int p) {
        int[] d = w.things.get(t);
        if (people.get(p).skill > d[0]) d[0] = people.get(p).skill;
        d[2] = d[1];
        d[1] = p;
        d[3] = 0;
        w.purses.get(p)[0] -= people.get(p).fee;
        w.purses.get(p)[2] += people.get(p).fee;
        w.nails.get(t).add(p);
        if (w.nails.get(t).size() > 8) w.nails.get(t).remove(0);
    }

    public int fix(int tp) {
        if (tp < 0 || tp / 10 >= things.size() || tp % 10 >= people.size()) return BAD;
        mended(deed, tp / 10, tp % 10);
        return deed.things.get(tp / 10)[0];
    }

    /** Who paid for each thing. */
    int[] year(Stand w, int[] broke) {
        for (int t = 0; t < things.size(); t++) {
            int o = things.get(t).owner, way = people.get(o).way;
            int[] d = w.things.get(t);
            if (way == 4 ? bestMends(t, o, people.get(o).skill, 4, d[0], d[1], d[3]) : d[0] <= way) mended(w, t, o);
        }
        for (int t = 0; t < things.size(); t++) {
            int[] d = w.things.get(t);
            z = z * 1103515245 + 12345;
            if ((z >>> 8) % 12 < number(t, d[0], d[3], d[1])) d[0]--;
        }
        int[] paid = new int[things.size()];
        for (int t = 0; t < things.size(); t++) {
            int[] d = w.things.get(t);
            Thing it = things.get(t);
            if (d[0] != 0) {
                w.purses.get(it.owner)[0] += it.worth;
                d[3] = Math.min(99, d[3] + 1);
                paid[t] = NOT;
                w.whole++;
                continue;
            }
            w.broken++;
            broke[0]++;
            if (it.next != t && it.next < things.size() && w.things.get(it.next)[0] > 1) w.things.get(it.next)[0]--;
            if (d[1] >= 0 && !forgets(d[3])) {
                paid[t] = d[1];
                int part = rules[1] == 1 && d[2] >= 0 ? it.bill / 2 : 0;
                if (part > 0) pays(w, d[2], part);
                pays(w, d[1], it.bill - part);
            } else {
                paid[t] = it.owner;
                pays(w, it.owner, it.bill);
            }
            d[0] = 3;
            d[1] = -2;
            d[2] = -2;
            d[3] = 0;
        }
        return paid;
    }

    static void pays(Stand w, int p, int n) {
        w.purses.get(p)[0] -= n;
        w.purses.get(p)[1] += n;
    }

    public int years(int seed, int n) {
        if (n < 1 || n > 30) return BAD;
        z = seed;
        int[] broke = {0};
        for (int i = 0; i < n; i++) led = year(deed, broke);
        return broke[0];
    }

    public int paid(int thing) {
        if (thing < 0 || thing >= things.size()) return BAD;
        return thing >= led.length ? STATE : led[thing];
    }

    public int layer(int thing, int i) {
        if (thing < 0 || thing >= things.size() || i < 0 || i >= deed.nails.get(thing).size()) return BAD;
        return deed.nails.get(thing).get(i);
    }

    public int told(int shelf, int thing) {
        if (shelf < 0 || shelf > 5 || thing < 0 || thing >= things.size()) return BAD;
        if (shelves[shelf] == null) return -11;
        if (!(shelves[shelf] instanceof Row r) || r.sort != 0) return -12;
        List<Integer> n = deed.nails.get(thing);
        for (int i = 0; ; i++) {
            if (i == n.size() && i == r.of.length) return NOT;
            if (i == n.size() || i == r.of.length || n.get(i) != r.of[i]) return i;
        }
    }

    public int over(int pq) {
        if (pq < 0 || pq / 10 >= people.size() || pq % 10 >= people.size() || pq / 10 == pq % 10) return BAD;
        int often = 0;
        for (List<Integer> n : deed.nails) {
            for (int i = 0; i + 1 < n.size(); i++) often += n.get(i) == pq % 10 && n.get(i + 1) == pq / 10 ? 1 : 0;
        }
        return often;
    }

    // ---- in thought

    static long twelve(int y) {
        long m = 1;
        while (y-- > 0) m *= 12;
        return m;
    }

    boolean forgets(int age) {
        return rules[0] > 0 && age >= rules[0];
    }

    /** From behind this year's mending on, o of a skill owning it, who goes by a way then: 12 to the y means. */
    long rest(int t, int o, int skill, int way, int y, int s, int last, int age) {
        if (y == 0) return 0;
        long unit = twelve(y - 1), worth = things.get(t).worth * unit, worse;
        int n = number(t, s, age, last), older = Math.min(99, age + 1);
        if (n == 0) {
            worse = 0;
        } else if (s == 1) {
            worse = ahead(t, o, skill, way, y - 1, 3, -2, 0);
            if (last < 0 || forgets(age) || last == o) worse -= things.get(t).bill * unit;
        } else {
            worse = worth + ahead(t, o, skill, way, y - 1, s - 1, last, older);
        }
        long same = n == 12 ? 0 : worth + ahead(t, o, skill, way, y - 1, s, last, older);
        return n * worse + (12 - n) * same;
    }

    long mends(int t, int o, int skill, int way, int y, int s) {
        return rest(t, o, skill, way, y, Math.max(s, skill), o, 0) - people.get(o).fee * twelve(y);
    }

    long ahead(int t, int o, int skill, int way, int y, int s, int last, int age) {
        if (y == 0) return 0;
        if (way != 4) return s <= way ? mends(t, o, skill, way, y, s) : rest(t, o, skill, way, y, s, last, age);
        return Math.max(rest(t, o, skill, way, y, s, last, age), mends(t, o, skill, way, y, s));
    }

    boolean bestMends(int t, int o, int skill, int y, int s, int last, int age) {
        return y > 0 && mends(t, o, skill, 4, y, s) > rest(t, o, skill, 4, y, s, last, age);
    }

    static long part(long above, int y, int part) {
        BigInteger a = BigInteger.valueOf(above), b = BigInteger.valueOf(twelve(y)), g = a.gcd(b);
        return (part == 0 ? a : b).divide(g).longValueExact();
    }

    boolean noThought(int ty) {
        return ty < 0 || ty % 10 > 6 || ty / 10 >= things.size();
    }

    public long worth(int ty, int what, int part) {
        if (noThought(ty) || what < 0 || what > 1 || part < 0 || part > 1) return NO;
        int t = ty / 10, o = things.get(t).owner;
        int[] d = deed.things.get(t);
        int way = what == 1 ? 4 : people.get(o).way;
        return part(ahead(t, o, people.get(o).skill, way, ty % 10, d[0], d[1], d[3]), ty % 10, part);
    }

    public int now(int ty, int what) {
        if (noThought(ty) || what < 0 || what > 2) return BAD;
        int t = ty / 10, y = ty % 10, o = things.get(t).owner, skill = people.get(o).skill;
        int[] d = deed.things.get(t);
        if (what == 0) return bestMends(t, o, skill, y, d[0], d[1], d[3]) ? 1 : 0;
        if (what == 1) {
            int bits = 0;
            for (int s = 1; s <= 3; s++) bits += bestMends(t, o, skill, y, s, d[1], d[3]) ? 1 << (s - 1) : 0;
            return bits;
        }
        for (int k = 1; k <= 3; k++) if (bestMends(t, o, k, y, d[0], d[1], d[3])) return k;
        return NOT;
    }

    long risk(int t, int y, int s, int age) {
        if (y == 0) return 0;
        int n = number(t, s, age, 0), older = Math.min(99, age + 1);
        long worse = s == 1 ? (forgets(age) ? 0 : things.get(t).bill * twelve(y - 1)) : risk(t, y - 1, s - 1, older);
        return n * worse + (12 - n) * risk(t, y - 1, s, older);
    }

    public long smith(int ty, int p, int what, int part) {
        if (noThought(ty) || p < 0 || p >= people.size()) return NO;
        if (what < 0 || what > 1 || part < 0 || part > 1) return NO;
        int t = ty / 10, y = ty % 10, o = things.get(t).owner, skill = people.get(o).skill;
        if (p == o) return NO;
        int[] d = deed.things.get(t);
        int s = Math.max(d[0], people.get(p).skill);
        if (what == 1) return part(risk(t, y, s, 0), y, part);
        return part(rest(t, o, skill, 4, y, s, p, 0) - rest(t, o, skill, 4, y, d[0], d[1], d[3]), y, part);
    }

    public long gift(int ty, int q, int part) {
        if (noThought(ty) || part < 0 || part > 1 || q < 0 || q >= people.size()) return NO;
        int t = ty / 10, y = ty % 10;
        if (things.get(t).owner == q) return NO;
        int[] d = deed.things.get(t);
        return part(ahead(t, q, people.get(q).skill, 4, y, d[0], d[1], d[3]), y, part);
    }

    public long debts(int py, int part) {
        if (py < 0 || py % 10 > 6 || py / 10 >= people.size() || part < 0 || part > 1) return NO;
        long sum = 0;
        for (int t = 0; t < things.size(); t++) {
            int[] d = deed.things.get(t);
            if (d[1] == py / 10) sum += risk(t, py % 10, d[0], d[3]);
        }
        return part(sum, py % 10, part);
    }

    public int ruled(int seed, int n, int what) {
        if (n < 1 || n > 20 || what < 0 || what > 1) return BAD;
        int was = rules[0], least = Integer.MAX_VALUE, by = 0;
        for (int f = 0; f <= 9; f++) {
            rules[0] = f;
            z = seed;
            Stand w = deed.copy();
            int[] broke = {0};
            for (int i = 0; i < n; i++) year(w, broke);
            if (broke[0] < least) {
                least = broke[0];
                by = f;
            }
        }
        rules[0] = was;
        return what == 0 ? by : least;
    }

    public int ruined(int seed, int below, int what) {
        if (below < -999 || below > 0 || what < 0 || what > 1) return BAD;
        z = seed;
        Stand w = deed.copy();
        for (int y = 1; y <= 30; y++) {
            year(w, new int[1]);
            for (int p = 0; p < people.size(); p++) {
                if (w.purses.get(p)[0] < below) return what == 0 ? y : p;
            }
        }
        return NOT;
    }

    public int image() {
        image = deed.copy();
        return things.size();
    }

    public int back() {
        if (image == null) return STATE;
        Stand w = image.copy();
        int knew = w.things.size();
        for (int t = knew; t < things.size(); t++) {
            w.things.add(deed.things.get(t));
            w.nails.add(deed.nails.get(t));
        }
        for (int p = w.purses.size(); p < people.size(); p++) w.purses.add(deed.purses.get(p));
        deed = w;
        return knew;
    }

    // ---- acts, shelves

    interface Mends {
        int n();
        void begins(int body);
        default int mends(int x) { begins(1); return x + n(); }
    }

    /** A PERSON; its classes are the host's own KINDS, so that the host's own calls find the bodies. */
    class Acting implements Mends {
        int n;
        public int n() { return n; }
        public void begins(int body) { ran.add(body); }
        int pays(int x) { begins(10); return mends(x) * 2; }
        int leaves(int x) { begins(11); return x ^ n; }
        int tells(int x) { begins(2); return pays(x) - leaves(1); }
    }

    class Leaver extends Acting {
        public int mends(int x) { begins(20); return super.mends(x) + 3; }
    }

    class Night extends Acting {
        int pays(int x) { begins(30); return -super.pays(x); }
    }

    class Good extends Night {
        int leaves(int x) { begins(40); return super.leaves(x) * 3; }
        int pays(int x) { begins(41); return super.pays(x + 1); }
    }

    class Smith extends Leaver {
        int leaves(int x) { begins(50); return super.leaves(x) - mends(2); }
    }

    class Best extends Good {
        int tells(int x) { begins(60); return super.tells(x) ^ 5; }
    }

    class Told extends Acting {
        public int mends(int x) { begins(70); return super.mends(x) * 2; }
    }

    class Ruined extends Smith {
        int pays(int x) { begins(80); return super.pays(x) + leaves(2); }
        int tells(int x) { begins(81); return super.tells(x) - 1; }
    }

    static final Class<?>[] KINDS = {Acting.class, Leaver.class, Night.class, Good.class, Smith.class, Best.class,
        Told.class, Ruined.class};

    public int body(int kind) {
        if (kind < 0 || kind > 7) return BAD;
        if (bodies.size() == 50) return FULL;
        Acting[] fresh = {new Acting(), new Leaver(), new Night(), new Good(), new Smith(), new Best(), new Told(),
            new Ruined()};
        fresh[kind].n = bodies.size();
        bodies.add(fresh[kind]);
        return bodies.size() - 1;
    }

    public int act(int body, int act, int x) {
        ran = new ArrayList<>();
        if (body < 0 || body >= bodies.size()) return 0;
        Acting b = bodies.get(body);
        switch (act) {
            case 0: return b.mends(x);
            case 1: return b.pays(x);
            case 2: return b.leaves(x);
            case 3: return b.tells(x);
            default: return 0;
        }
    }

    public int trace(int i) {
        return i < 0 || i >= ran.size() || i >= 24 ? BAD : ran.get(i);
    }

    public int keep(int shelf, int body) {
        if (shelf < 0 || shelf > 5 || body < -1 || body >= bodies.size()) return BAD;
        shelves[shelf] = body < 0 ? null : bodies.get(body);
        return 1;
    }

    public int row(int shelf, int sort, int n) {
        if (shelf < 0 || shelf > 5 || sort < 0 || sort > 4 || n > 60) return BAD;
        if (n < 0) return -14;
        Row r = new Row();
        r.sort = sort;
        r.of = new long[n];
        shelves[shelf] = r;
        return 1;
    }

    public int put(int shelf, int i, long v) {
        if (shelf < 0 || shelf > 5) return BAD;
        if (shelves[shelf] == null) return -11;
        if (!(shelves[shelf] instanceof Row r)) return -12;
        if (i < 0 || i >= r.of.length) return -13;
        int bits = new int[] {56, 48, 32, 0, 0}[r.sort];
        r.of[i] = r.sort == 4 ? (v == 0 ? 0 : 1) : v << bits >> bits;
        return 1;
    }

    public long element(int shelf, int i) {
        if (shelf < 0 || shelf > 5 || !(shelves[shelf] instanceof Row r) || i < 0 || i >= r.of.length) return NO;
        return r.of[i];
    }

    public int shift(int shelf, int i, int other, int j, int n) {
        if (shelf < 0 || shelf > 5 || other < 0 || other > 5) return BAD;
        if (shelves[shelf] == null || shelves[other] == null) return -11;
        if (!(shelves[shelf] instanceof Row a) || !(shelves[other] instanceof Row b) || a.sort != b.sort) return -12;
        if (n < 0 || i < 0 || j < 0 || (long) i + n > a.of.length || (long) j + n > b.of.length) return -13;
        long[] were = a.of.clone();
        for (int k = 0; k < n; k++) b.of[j + k] = were[i + k];
        return n;
    }

    public int taken(int shelf, int k) {
        if (shelf < 0 || shelf > 5 || k < 0 || k > 7) return BAD;
        if (shelves[shelf] == null) return -11;
        if (!KINDS[k].isInstance(shelves[shelf])) return -12;
        return Arrays.asList(KINDS).indexOf(shelves[shelf].getClass());
    }

    public int count(int what) {
        if (what < 0 || what > 7) return BAD;
        int[] all = {people.size(), things.size(), deed.whole, deed.broken, tape.length(), undoable.size(),
            bodies.size(), ran.size()};
        return all[what];
    }
}
