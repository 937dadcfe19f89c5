import java.io.IOException;

/** Boundary cases of mending and of years in deed, and of promises 10 to 15. */
public final class EdgesDeedTest extends Edges {
    public static void main(String[] args) throws IOException, IllegalAccessException {
        run(EdgesDeedTest.class);
    }

    /** One who owns, one who mends, one more, and things of a WORTH and a BILL. */
    private static LastMender owned(int things, int worth, int bill) {
        LastMender x = people(2, 5, 3, 8, 1, 2);
        for (int t = 0; t < things; t++) x.thing(0, 100 * worth + bill);
        return x;
    }

    /** Lets a THING break in this YEAR and nothing else wear. */
    private static void breakNow(LastMender x, int thing) {
        wear(x, thing, x.of(thing, 13) == 3 ? 1 : x.of(thing, 13));
        law(x, "t=" + thing + "?12;0");
        is("one breaks", x.years(1, 1), 1);
    }

    @Says("STATE becomes its SKILL, if that is more")
    static void stateAndSkill() {
        for (int state = 1; state <= 3; state++) {
            for (int skill = 1; skill <= 3; skill++) {
                LastMender x = people(skill, 4);
                x.thing(0, 0);
                wear(x, 0, state);
                is("a SKILL of " + skill + " on a STATE of " + state, x.fix(0), Math.max(state, skill));
                is("of(0, 13)", x.of(0, 13), Math.max(state, skill));
                is("paid for all the same", x.of(0, 5), 4);
            }
        }
    }

    @Says("BEFORE becomes LAST, LAST that one, AGE 0; its PURSE is less by its FEE.")
    static void lastAndBefore() {
        LastMender x = owned(1, 0, 0);
        law(x, "0");
        x.years(1, 3);
        int[] menders = {1, 2, 2, 0};
        for (int i = 0; i < menders.length; i++) {
            is("AGE", x.of(0, 17), 3);
            x.fix(menders[i]);
            is("LAST", x.of(0, 15), menders[i]);
            is("BEFORE", x.of(0, 16), i == 0 ? NOT : menders[i - 1]);
            is("AGE", x.of(0, 17), 0);
            x.years(1, 3);
        }
        is("PURSE", x.of(0, 3), -5);
        is("PURSE", x.of(1, 3), -8);
        is("PURSE", x.of(2, 3), -4);
    }

    @Says("A PERSON mends a THING (tp: 10 times the THING and the PERSON): its STATE then. BAD.")
    static void badFix() {
        LastMender x = owned(2, 0, 0);
        long[] before = all(x);
        for (int tp : new int[] {LEAST, -100, -11, -10, -1, 3, 4, 9, 13, 19, 20, 22, 60, 100, MOST}) {
            is("fix(" + tp + ")", x.fix(tp), BAD);
        }
        isAll("what is BAD", x, before);
        is("fix(0)", x.fix(0), 3);
        is("fix(12)", x.fix(12), 3);
        is("nobody is there", new LastMender().fix(0), BAD);
        is("no THING is there", people(1, 0).fix(0), BAD);
    }

    @Says("(tp: 10 times the THING and the PERSON)")
    static void thingAndPerson() {
        LastMender x = people(1, 1, 1, 1, 1, 1, 1, 1, 1, 1);
        for (int t = 0; t < 6; t++) x.thing(0, 0);
        for (int tp = -20; tp < 80; tp++) {
            boolean there = tp >= 0 && tp / 10 < 6 && tp % 10 < 5;
            is("fix(" + tp + ")", x.fix(tp), there ? 3 : BAD);
            if (there) is("who mended it", x.of(tp / 10, 15), tp % 10);
        }
        for (int t = 0; t < 6; t++) {
            is("how many", x.of(t, 18), 5);
            for (int p = 0; p < 5; p++) is("in turn", x.layer(t, p), p);
        }
    }

    @Says("1 THING by THING its OWNER mends it or not, by its WAY.")
    static void mendsFirst() {
        LastMender x = owned(1, 0, 0);
        x.mend(0, 2, 1);
        wear(x, 0, 1);
        law(x, "12");
        is("mended ahead of the draw", x.years(1, 1), 0);
        is("STATE", x.of(0, 13), 1);
        is("AGE", x.of(0, 17), 1);
        is("nails", x.of(0, 18), 1);
    }

    @Says("z = z * 1103515245 + 12345 (an int)")
    static void drawsWrap() {
        for (int seed : new int[] {0, 1, -1, 12, 77, 1 << 30, 1 << 31, MOST, LEAST + 1, -1103515245}) {
            for (int n : new int[] {1, 2, 3, 29, 30}) {
                LastMender x = owned(1, 0, 0);
                law(x, "6");
                int state = 3, broke = 0;
                for (int i = 1; i <= n; i++) {
                    if (drawn(seed, i) < 6 && --state == 0) {
                        state = 3;
                        broke++;
                    }
                }
                is("years(" + seed + ", " + n + ")", x.years(seed, n), broke);
                is("STATE", x.of(0, 13), state);
            }
        }
    }

    @Says("if (z >>> 8) % 12 is below THE LAW's number: STATE 1 less.")
    static void below() {
        boolean[] met = new boolean[12];
        for (int seed = -30; seed < 30; seed++) {
            int z = seed * 1103515245 + 12345, draw = (z >>> 8) % 12;
            met[draw] = true;
            for (int number = Math.max(0, draw - 1); number <= draw + 1; number++) {
                LastMender x = owned(1, 0, 0);
                law(x, "" + number);
                x.years(seed, 1);
                is("a draw of " + draw + ", a number of " + number, x.of(0, 13), number == draw + 1 ? 2 : 3);
            }
        }
        for (int draw = 0; draw < 12; draw++) is("a draw of " + draw + " was met", met[draw]);
    }

    @Says("2 THING by THING z =")
    static void inTurn() {
        for (int seed = 0; seed < 12; seed++) {
            LastMender x = owned(6, 0, 0);
            law(x, "6");
            x.years(seed, 2);
            for (int t = 0; t < 6; t++) {
                int state = 3;
                if (drawn(seed, t + 1) < 6) state--;
                if (drawn(seed, t + 7) < 6) state--;
                is("the STATE of " + t + " by " + seed, x.of(t, 13), state);
            }
        }
    }

    @Says("3 THING by THING: if its STATE is 0, it BREAKS")
    static void breaksAtZero() {
        LastMender x = owned(1, 7, 50);
        wear(x, 0, 2);
        law(x, "12");
        is("from 2", x.years(1, 1), 0);
        is("STATE", x.of(0, 13), 1);
        is("from 1", x.years(1, 1), 1);
        is("WORTH of two years, the BILL", x.of(0, 3), 14 - 50);
        x = owned(1, 7, 50);
        wear(x, 0, 1);
        law(x, "0");
        is("at 1, not worn", x.years(1, 1), 0);
        is("STATE", x.of(0, 13), 1);
    }

    @Says("its NEXT one, if it is there")
    static void nextNotThere() {
        LastMender x = owned(2, 0, 0);
        x.mend(0, 5, 2);
        breakNow(x, 0);
        is("the other one", x.of(1, 13), 3);
        x.thing(0, 0);
        is("one to come", x.of(2, 13), 3);
        breakNow(x, 0);
        is("it came", x.of(2, 13), 2);
        is("the other one", x.of(1, 13), 3);
        x = owned(1, 0, 0);
        x.mend(0, 5, 5);
        breakNow(x, 0);
        is("it is new", x.of(0, 13), 3);
    }

    @Says("(a THING's number 0 .. 5, there or not; itself: none; itself at first)")
    static void itselfIsNone() {
        LastMender x = owned(2, 0, 0);
        breakNow(x, 0);
        is("itself at first", x.of(0, 13), 3);
        x.mend(1, 5, 0);
        x.mend(1, 5, 1);
        breakNow(x, 1);
        is("itself again", x.of(1, 13), 3);
        is("no other", x.of(0, 13), 3);
    }

    @Says("another one and of a STATE above 1, has 1 less")
    static void nextAboveOne() {
        for (int next : new int[] {0, 2}) {
            for (int state = 1; state <= 3; state++) {
                LastMender x = owned(3, 0, 0);
                x.mend(1, 5, next);
                wear(x, 1, 1);
                wear(x, next, state);
                law(x, "t=1?12;0");
                is("one breaks alone", x.years(1, 1), 1);
                is("NEXT of STATE " + state, x.of(next, 13), Math.max(1, state - 1));
                is("the third", x.of(2 - next, 13), 3);
            }
        }
        LastMender x = owned(2, 0, 9);
        x.mend(0, 5, 1);
        law(x, "12");
        is("a NEXT one of STATE 0 breaks once", x.years(1, 3), 2);
        is("it is new", x.of(1, 13), 3);
        is("two BILLS", x.of(0, 4), 18);
    }

    @Says("(What a NEXT one loses counts at once, also if it was gone by already.)")
    static void nextAtOnce() {
        LastMender x = owned(3, 0, 0);
        x.mend(1, 5, 0);
        x.mend(2, 5, 0);
        law(x, "t?12;0");
        is("two break", x.years(1, 3), 2);
        is("one gone by loses both", x.of(0, 13), 1);
        x = owned(3, 0, 0);
        x.mend(0, 5, 2);
        x.mend(1, 5, 2);
        law(x, "t<2?12;0");
        is("two break", x.years(1, 3), 2);
        is("one to come loses both", x.of(2, 13), 1);
        x = owned(2, 0, 0);
        x.mend(1, 5, 0);
        law(x, "12");
        is("both break", x.years(1, 3), 2);
        is("one that broke ahead loses of its 3", x.of(0, 13), 2);
        is("the other is new", x.of(1, 13), 3);
    }

    /** Mended by 1 at once, it breaks at an AGE, for sure. */
    private static LastMender breaksAt(int age, int forgotten, int half) {
        LastMender x = owned(1, 0, 31);
        wear(x, 0, 1);
        x.mend(1, 0, 1);
        x.fix(1);
        x.rule(0, forgotten);
        x.rule(1, half);
        law(x, "a=" + age + "?12;0");
        if (age > 0) is("not yet", x.years(1, age), 0);
        is("AGE", x.of(0, 17), age);
        is("now", x.years(1, 1), 1);
        return x;
    }

    @Says("the BILL is paid by LAST, if there is one and it is not FORGOTTEN (F above 0 and AGE F or more)")
    static void forgottenAtF() {
        for (int f = 0; f <= 9; f++) {
            for (int age : new int[] {0, 1, f - 1, f, f + 1, 20}) {
                if (age < 0) continue;
                LastMender x = breaksAt(age, f, 0);
                boolean lastPays = f == 0 || age < f;
                is("F " + f + ", AGE " + age + ": LAST", x.of(1, 4), lastPays ? 31 : 0);
                is("F " + f + ", AGE " + age + ": the OWNER", x.of(0, 4), lastPays ? 0 : 31);
                is("F " + f + ", AGE " + age + ": LED", x.paid(0), lastPays ? 1 : 0);
                is("PURSE", x.of(1, 3), lastPays ? -8 - 31 : -8);
            }
        }
        LastMender x = owned(1, 0, 31);
        wear(x, 0, 1);
        law(x, "12");
        x.years(1, 1);
        is("there is no LAST: the OWNER", x.of(0, 4), 31);
    }

    @Says("if HALF is 1 and there is a BEFORE, that one pays the half (cut) of it")
    static void halves() {
        for (int bill : new int[] {0, 1, 2, 3, 98, 99}) {
            for (int half = 0; half <= 1; half++) {
                for (int before : new int[] {-1, 0, 1, 2}) {
                    LastMender x = owned(1, 0, bill);
                    x.rule(1, half);
                    if (before >= 0) x.fix(before);
                    x.fix(1);
                    law(x, "12");
                    is("it breaks", x.years(1, 3), 1);
                    int[] due = new int[3];
                    int cut = half == 1 && before >= 0 ? bill / 2 : 0;
                    due[1] = bill - cut;
                    if (before >= 0) due[before] += cut;
                    String call = "a BILL of " + bill + ", HALF " + half + ", BEFORE " + before + ": ";
                    for (int p = 0; p < 3; p++) is(call + "by " + p, x.of(p, 4), due[p]);
                    is(call + "LED", x.paid(0), 1);
                }
            }
        }
    }

    @Says({"if HALF is 1 and there is a BEFORE", "else the OWNER pays"})
    static void halfForgotten() {
        for (int f = 2; f <= 4; f++) {
            LastMender x = owned(1, 0, 31);
            x.rule(0, f);
            x.rule(1, 1);
            x.fix(2);
            x.fix(1);
            law(x, "12");
            x.years(1, 3);
            boolean lastPays = f > 2;
            is("F " + f + ": LAST", x.of(1, 4), lastPays ? 16 : 0);
            is("F " + f + ": BEFORE", x.of(2, 4), lastPays ? 15 : 0);
            is("F " + f + ": the OWNER", x.of(0, 4), lastPays ? 0 : 31);
            is("F " + f + ": LED", x.paid(0), lastPays ? 1 : 0);
        }
    }

    @Says("STATE becomes 3, LAST, BEFORE nobody, AGE 0.")
    static void newAgain() {
        LastMender x = owned(1, 9, 31);
        x.fix(1);
        x.fix(2);
        law(x, "12");
        x.years(1, 2);
        is("purse", x.of(0, 3), 18);
        is("it breaks", x.years(1, 1), 1);
        is("STATE", x.of(0, 13), 3);
        is("LAST", x.of(0, 15), NOT);
        is("BEFORE", x.of(0, 16), NOT);
        is("AGE", x.of(0, 17), 0);
        is("no WORTH of that YEAR", x.of(0, 3), 18);
        law(x, "l?12;0");
        is("nobody is LAST", x.of(0, 19), 0);
    }

    @Says("Else its OWNER has WORTH, AGE is 1 more (99 at most).")
    static void oldest() {
        LastMender x = owned(1, 9, 0);
        law(x, "0");
        for (int i = 0; i < 3; i++) x.years(1, 30);
        x.years(1, 8);
        is("AGE", x.of(0, 17), 98);
        x.years(1, 1);
        is("AGE", x.of(0, 17), 99);
        x.years(1, 1);
        is("AGE", x.of(0, 17), 99);
        x.years(1, 30);
        is("AGE", x.of(0, 17), 99);
        is("WORTH of 130 years", x.of(0, 3), 130 * 9);
        law(x, "a=99?7;0");
        is("AGE, by THE LAW", x.of(0, 19), 7);
    }

    @Says("n YEARS (1 .. 30) by a SEED: how many BROKE. BAD.")
    static void badYears() {
        LastMender x = owned(2, 1, 1);
        long[] before = all(x);
        for (int n : new int[] {LEAST, -30, -1, 0, 31, MOST}) is("years(5, " + n + ")", x.years(5, n), BAD);
        isAll("what is BAD", x, before);
        is("no YEAR yet", x.paid(0), STATE);
        law(x, "12");
        is("years(5, 1)", x.years(5, 1), 0);
        is("THING-YEARS", x.count(2), 2);
        is("years(5, 30)", x.years(5, 30), 20);
        is("THING-YEARS", x.count(2) + x.count(3), 62);
        is("none is there", new LastMender().years(5, 30), 0);
    }

    @Says("WHOLE: how many THING-YEARS did not break in deed; BROKEN: how many did.")
    static void wholeAndBroken() {
        LastMender x = owned(3, 0, 0);
        law(x, "t=1?12;0");
        x.years(1, 7);
        is("WHOLE", x.count(2), 19);
        is("BROKEN", x.count(3), 2);
        x.ruled(1, 20, 1);
        x.ruined(1, 0, 0);
        x.worth(6, 1, 0);
        is("WHOLE, in thought", x.count(2), 19);
        is("BROKEN, in thought", x.count(3), 2);
    }

    @Says("PAID: of one, BILLS so far; FEES so far.")
    static void soFar() {
        LastMender x = owned(1, 0, 31);
        is("BILLS", x.of(0, 4), 0);
        is("FEES", x.of(0, 5), 0);
        law(x, "12");
        for (int i = 1; i <= 3; i++) {
            x.years(1, 3);
            is("BILLS", x.of(0, 4), 31 * i);
            x.fix(2);
            x.mend(2, 1, 10 * i);
            x.fix(2);
            is("FEES", x.of(2, 5), 2 * i + 10 * i * (i + 1) / 2);
            x.mend(2, 1, 2);
            breakNow(x, 0);
            is("BILLS of LAST", x.of(2, 4), 31 * i);
        }
        x.ruined(1, 0, 0);
        is("BILLS, in thought", x.of(0, 4), 93);
    }

    @Says("LED: of the latest YEAR in deed who paid for a THING (NOT: it did not break).")
    static void led() {
        LastMender x = owned(2, 0, 31);
        x.fix(1);
        law(x, "t?0;12");
        x.years(1, 3);
        is("LAST", x.paid(0), 1);
        is("not broken", x.paid(1), NOT);
        x.ruled(1, 3, 0);
        x.ruined(1, 0, 0);
        is("in thought", x.paid(0), 1);
        x.fix(2);
        is("still of that YEAR", x.paid(0), 1);
        x.years(1, 1);
        is("not broken in the latest", x.paid(0), NOT);
        x.years(1, 2);
        is("LAST", x.paid(0), 2);
        x.years(1, 3);
        is("the OWNER", x.paid(0), 0);
    }

    @Says("LED. BAD; NOT; STATE: no YEAR yet, or it came since.")
    static void ledSince() {
        LastMender x = owned(1, 0, 31);
        for (int t : new int[] {LEAST, -1, 1, 6, MOST}) is("paid(" + t + ")", x.paid(t), BAD);
        is("no YEAR yet", x.paid(0), STATE);
        x.ruled(1, 20, 0);
        x.ruined(1, 0, 0);
        is("none in deed", x.paid(0), STATE);
        x.years(1, 1);
        is("not broken", x.paid(0), NOT);
        x.thing(0, 0);
        x.thing(0, 0);
        is("it came since", x.paid(1), STATE);
        is("so did this", x.paid(2), STATE);
        is("the one ahead", x.paid(0), NOT);
        x.years(1, 1);
        is("a YEAR with it", x.paid(1), NOT);
        x = people(1, 0);
        x.years(1, 30);
        x.thing(0, 0);
        is("it came since YEARS of none", x.paid(0), STATE);
    }

    @Says("LAYERS: nails in a THING in deed: who mended it, the latest 8, the oldest first.")
    static void eightNails() {
        LastMender x = owned(2, 0, 0);
        int[] menders = {2, 0, 1, 1, 0, 2, 2, 1, 0, 0, 1};
        for (int i = 0; i < menders.length; i++) {
            x.fix(10 + menders[i]);
            int kept = Math.min(8, i + 1);
            is("how many", x.of(1, 18), kept);
            for (int at = 0; at < kept; at++) is("layer(1, " + at + ")", x.layer(1, at), menders[i + 1 - kept + at]);
        }
        is("none in the other", x.of(0, 18), 0);
        x.mend(0, 2, 3);
        x.ruined(1, 0, 0);
        x.ruled(1, 20, 0);
        is("none in thought", x.of(0, 18), 0);
        law(x, "0");
        x.years(1, 9);
        is("eight by YEARS", x.of(0, 18), 8);
        is("the latest by YEARS", x.layer(1, 7), 0);
    }

    @Says("nails in a THING in deed")
    static void nailsStay() {
        LastMender x = owned(1, 0, 0);
        x.fix(1);
        x.fix(2);
        law(x, "12");
        is("it breaks", x.years(1, 3), 1);
        is("how many", x.of(0, 18), 2);
        is("layer(0, 0)", x.layer(0, 0), 1);
        is("layer(0, 1)", x.layer(0, 1), 2);
    }

    @Says("The i-th LAYER of a THING (0 the oldest kept). BAD.")
    static void badLayers() {
        LastMender x = owned(2, 0, 0);
        is("none", x.layer(0, 0), BAD);
        for (int n = 1; n <= 9; n++) {
            x.fix(1);
            int kept = Math.min(8, n);
            is("the newest", x.layer(0, kept - 1), 1);
            for (int i : new int[] {LEAST, -1, kept, kept + 1, MOST}) is("layer(0, " + i + ")", x.layer(0, i), BAD);
        }
        for (int t : new int[] {LEAST, -1, 2, 6, MOST}) is("layer(" + t + ", 0)", x.layer(t, 0), BAD);
        is("none of the other", x.layer(1, 0), BAD);
    }

    /** A THING mended by some, and a ROW of bytes on SHELF 0. */
    private static int told(int[] nails, int... bytes) {
        LastMender x = owned(1, 0, 0);
        for (int p : nails) x.fix(p);
        Due.bytes(x, 0, bytes);
        return x.told(0, 0);
    }

    @Says("the first place at which it is not as the LAYERS of a THING (one more or less, too); NOT.")
    static void firstPlace() {
        int[] none = {}, three = {2, 0, 1}, ten = {0, 1, 2, 0, 1, 2, 0, 1, 2, 0};
        is("none and none", told(none), NOT);
        is("none and one", told(none, 0), 0);
        is("three and none", told(three), 0);
        is("one less", told(three, 2, 0), 2);
        is("as they are", told(three, 2, 0, 1), NOT);
        is("one more", told(three, 2, 0, 1, 1), 3);
        is("the first", told(three, 1, 0, 1), 0);
        is("the second", told(three, 2, 1, 1), 1);
        is("the last", told(three, 2, 0, 0), 2);
        is("the first of two", told(three, 1, 0, 0), 0);
        is("another ahead of one more", told(three, 2, 0, 0, 0), 2);
        is("another ahead of one less", told(three, 1, 0), 0);
        is("no mender at all", told(three, 2, 0, -1), 2);
        is("the latest eight", told(ten, 2, 0, 1, 2, 0, 1, 2, 0), NOT);
        is("seven of eight", told(ten, 2, 0, 1, 2, 0, 1, 2), 7);
        is("nine of eight", told(ten, 2, 0, 1, 2, 0, 1, 2, 0, 1), 8);
        is("all ten", told(ten, ten), 0);
        LastMender x = owned(2, 0, 0);
        for (int p : ten) x.fix(p);
        for (int i = 0; i < 8; i++) x.fix(11);
        Due.bytes(x, 0, 2, 0, 1, 2, 0, 1, 2, 0);
        is("whatever the next one's are", x.told(0, 0), NOT);
        x.row(0, 0, 9);
        for (int i = 0; i < 8; i++) x.put(0, i, 1);
        is("one more than eight", x.told(0, 1), 8);
    }

    @Says("TOLD. BAD, -11, -12 (no ROW of bytes); NOT.")
    static void badTold() {
        LastMender x = owned(1, 0, 0);
        for (int shelf : new int[] {LEAST, -1, 6, MOST}) is("told(" + shelf + ", 0)", x.told(shelf, 0), BAD);
        for (int t : new int[] {LEAST, -1, 1, 6, MOST}) is("told(0, " + t + "), nothing there", x.told(0, t), BAD);
        is("nothing there", x.told(0, 0), NOTHING_THERE);
        for (int sort = 1; sort <= 4; sort++) {
            x.row(sort, sort, 0);
            is("a row of sort " + sort, x.told(sort, 0), OTHER_KIND);
            is("BAD ahead of -12", x.told(sort, 1), BAD);
        }
        x.body(0);
        x.keep(5, 0);
        is("a PERSON", x.told(5, 0), OTHER_KIND);
        x.row(5, 0, 0);
        is("bytes", x.told(5, 0), NOT);
    }

    @Says("OVER: how often in LAYERS one's nail is just over another one's.")
    static void overOf() {
        LastMender x = owned(2, 0, 0);
        is("no nails", x.over(10), 0);
        x.fix(0);
        is("one nail", x.over(10) + x.over(1), 0);
        x.fix(1);
        is("just over", x.over(10), 1);
        is("not under", x.over(1), 0);
        x.fix(1);
        is("not over one's own", x.over(10), 1);
        x.fix(2);
        is("not with another between", x.over(20), 0);
        x.fix(10);
        is("not over the nail of another THING", x.over(2), 0);
        x.fix(11);
        is("in all THINGS", x.over(10), 2);
        for (int i = 0; i < 6; i++) x.fix(2);
        is("as long as both are kept", x.over(10), 1);
        is("the oldest kept is over none", x.over(21), 1);
        x.fix(2);
        x.fix(2);
        is("gone with the nail below", x.over(21), 0);
    }

    @Says("BAD (one and the same).")
    static void badOver() {
        LastMender x = owned(1, 0, 0);
        for (int pq : new int[] {0, 11, 22}) is("one and the same: " + pq, x.over(pq), BAD);
        for (int pq : new int[] {LEAST, -12, -10, -1, 3, 9, 13, 30, 32, 33, 100, MOST}) {
            is("over(" + pq + ")", x.over(pq), BAD);
        }
        for (int pq : new int[] {1, 2, 10, 12, 20, 21}) is("over(" + pq + ")", x.over(pq), 0);
    }

    @Says("(pq: 10 times the one and the other whose nail is below) in all THINGS")
    static void oneAndTheOther() {
        LastMender x = people(1, 0, 1, 0, 1, 0, 1, 0, 1, 0);
        for (int t = 0; t < 6; t++) x.thing(0, 0);
        for (int t = 0; t < 6; t++) {
            for (int i = 0; i <= t; i++) x.fix(10 * t + i * (t + 1) % 5);
        }
        for (int pq = -20; pq < 70; pq++) {
            int p = pq / 10, q = pq % 10, often = 0;
            boolean there = pq >= 0 && p < 5 && q < 5 && p != q;
            for (int t = 0; t < 6; t++) {
                for (int i = 1; i <= t; i++) {
                    if (p == i * (t + 1) % 5 && q == (i - 1) * (t + 1) % 5) often++;
                }
            }
            is("over(" + pq + ")", x.over(pq), there ? often : BAD);
        }
    }
}
