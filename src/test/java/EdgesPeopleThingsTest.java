import java.io.IOException;
import java.util.Arrays;

/** Boundary cases of PEOPLE, THINGS and THE RULE, and of promises 1 to 7. */
public final class EdgesPeopleThingsTest extends Edges {
    public static void main(String[] args) throws IOException, IllegalAccessException {
        run(EdgesPeopleThingsTest.class);
    }

    @Says("Nobody, nothing.")
    static void newObject() {
        LastMender x = new LastMender();
        for (int what = 0; what < 8; what++) is("count(" + what + ")", x.count(what), 0);
        for (int p = 0; p < 5; p++) is("of(" + p + ", 0)", x.of(p, 0), VOID);
        for (int t = 0; t < 6; t++) is("of(" + t + ", 10)", x.of(t, 10), VOID);
        for (int shelf = 0; shelf < 6; shelf++) is("taken(" + shelf + ", 0)", x.taken(shelf, 0), NOTHING_THERE);
        is("act(0, 0, 0)", x.act(0, 0, 0), 0);
        is("trace(0)", x.trace(0), BAD);
        is("law()", x.law(), -100);
        is("years(1, 30)", x.years(1, 30), 0);
        is("of what broke", x.count(3), 0);
    }

    @Says("PEOPLE 0 .. 4, as they come")
    static void fivePeople() {
        LastMender x = new LastMender();
        for (int p = 0; p <= 4; p++) {
            is("of one to come", x.of(p, 1), VOID);
            is("person(2, " + p + ")", x.person(2, p), p);
            is("count(0)", x.count(0), p + 1);
        }
        is("a sixth", x.person(2, 5), FULL);
        for (int p = 0; p <= 4; p++) is("of(" + p + ", 1)", x.of(p, 1), p);
        is("of(5, 1)", x.of(5, 1), VOID);
        is("of(-1, 1)", x.of(-1, 1), VOID);
    }

    @Says("A PERSON: the number. BAD, FULL: 5.")
    static void badAheadOfFull() {
        LastMender x = people(1, 0, 1, 0, 1, 0, 1, 0);
        is("a bad fifth", x.person(0, 0), BAD);
        is("a fifth", x.person(1, 0), 4);
        long[] before = all(x);
        is("a sixth", x.person(3, 99), FULL);
        for (int skill : new int[] {LEAST, -1, 0, 4, MOST}) is("person(" + skill + ", 0)", x.person(skill, 0), BAD);
        for (int fee : new int[] {LEAST, -1, 100, MOST}) is("person(1, " + fee + ")", x.person(1, fee), BAD);
        isAll("a sixth", x, before);
    }

    @Says("SKILL (1 .. 3)")
    static void skills() {
        LastMender x = new LastMender();
        for (int skill : new int[] {LEAST, -1, 0, 4, 5, MOST}) is("person(" + skill + ", 5)", x.person(skill, 5), BAD);
        is("count(0)", x.count(0), 0);
        for (int skill = 1; skill <= 3; skill++) {
            is("person(" + skill + ", 5)", x.person(skill, 5), skill - 1);
            is("of(.., 0)", x.of(skill - 1, 0), skill);
        }
    }

    @Says("FEE (0 .. 99: what a mending costs them)")
    static void fees() {
        LastMender x = new LastMender();
        for (int fee : new int[] {LEAST, -1, 100, 101, MOST}) is("person(2, " + fee + ")", x.person(2, fee), BAD);
        is("count(0)", x.count(0), 0);
        is("person(2, 0)", x.person(2, 0), 0);
        is("person(2, 99)", x.person(2, 99), 1);
        x.thing(0, 0);
        for (int p = 0; p < 2; p++) {
            is("fix(" + p + ")", x.fix(p), 3);
            is("of(" + p + ", 1)", x.of(p, 1), 99 * p);
            is("of(" + p + ", 3)", x.of(p, 3), -99 * p);
            is("of(" + p + ", 5)", x.of(p, 5), 99 * p);
        }
    }

    @Says("a WAY (0 at first)")
    static void firstWay() {
        LastMender x = people(3, 7, 1, 0, 2, 2, 3, 3, 1, 4);
        for (int p = 0; p < 5; p++) is("of(" + p + ", 2)", x.of(p, 2), 0);
        is("mend(4, 2, 3)", x.mend(4, 2, 3), 0);
    }

    @Says("0 LEAVE: never mends")
    static void leave() {
        for (int state = 1; state <= 3; state++) {
            LastMender x = people(3, 0);
            x.thing(0, 0);
            wear(x, 0, state);
            law(x, "0");
            x.years(1, 4);
            is("nails in a thing of " + state, x.of(0, 18), 0);
            is("its state", x.of(0, 13), state);
        }
    }

    @Says("1 to 3: mends what is its own, if its STATE is no more than that")
    static void wayAndState() {
        for (int way = 1; way <= 3; way++) {
            for (int state = 1; state <= 3; state++) {
                LastMender x = people(1, 7, 1, 5);
                x.thing(0, 0);
                x.thing(1, 0);
                wear(x, 0, state);
                x.mend(0, 2, way);
                law(x, "0");
                x.years(1, 1);
                boolean mends = state <= way;
                is("way " + way + ", state " + state + ": nails", x.of(0, 18), mends ? 1 : 0);
                is("way " + way + ", state " + state + ": last", x.of(0, 15), mends ? 0 : NOT);
                is("way " + way + ", state " + state + ": fees", x.of(0, 5), mends ? 7 : 0);
                is("what is not its own", x.of(1, 18), 0);
            }
        }
    }

    @Says("a WAY (0 at first): 0 LEAVE: never mends; 1 to 3: mends what is its own, if its STATE is no more than that; 4 BEST")
    static void ways() {
        LastMender x = people(2, 5);
        for (int way : new int[] {LEAST, -1, 5, MOST}) is("mend(0, 2, " + way + ")", x.mend(0, 2, way), BAD);
        is("of(0, 2)", x.of(0, 2), 0);
        for (int way = 1; way <= 4; way++) is("mend(0, 2, " + way + ")", x.mend(0, 2, way), way - 1);
        is("mend(0, 2, 0)", x.mend(0, 2, 0), 4);
    }

    @Says("PURSE of each (0 at first; may be below 0)")
    static void purses() {
        LastMender x = people(2, 30, 1, 0);
        x.thing(1, 99);
        is("of(0, 3)", x.of(0, 3), 0);
        is("of(1, 3)", x.of(1, 3), 0);
        for (int i = 1; i <= 3; i++) {
            x.fix(0);
            is("of(0, 3)", x.of(0, 3), -30 * i);
        }
        wear(x, 0, 1);
        law(x, "12");
        x.rule(0, 1);
        is("it breaks", x.years(1, 1), 1);
        is("of(1, 3)", x.of(1, 3), -99);
    }

    @Says("THINGS 0 .. 5, as they come")
    static void sixThings() {
        LastMender x = people(1, 0);
        for (int t = 0; t <= 5; t++) {
            is("of one to come", x.of(t, 12), VOID);
            is("thing(0, " + t + ")", x.thing(0, t), t);
            is("count(1)", x.count(1), t + 1);
        }
        is("a seventh", x.thing(0, 6), FULL);
        for (int t = 0; t <= 5; t++) is("of(" + t + ", 12)", x.of(t, 12), t);
        is("of(6, 12)", x.of(6, 12), VOID);
        is("of(-1, 12)", x.of(-1, 12), VOID);
    }

    @Says("A THING (wb: 100 WORTH and BILL): its number. BAD, FULL: 6.")
    static void badThings() {
        LastMender x = new LastMender();
        is("nobody is there", x.thing(0, 0), BAD);
        x.person(1, 0);
        x.person(1, 0);
        for (int owner : new int[] {LEAST, -1, 2, 5, MOST}) is("thing(" + owner + ", 0)", x.thing(owner, 0), BAD);
        int[] all = {LEAST, -10000, -100, -99, -1, 10000, 10001, 10099, MOST};
        for (int wb : all) is("thing(0, " + wb + ")", x.thing(0, wb), BAD);
        is("none came", x.count(1), 0);
        for (int t = 0; t < 5; t++) x.thing(1, t);
        is("a bad sixth", x.thing(2, 0), BAD);
        is("a sixth", x.thing(1, 9999), 5);
        long[] before = all(x);
        is("a seventh", x.thing(0, 9999), FULL);
        for (int wb : all) is("thing(0, " + wb + "), full", x.thing(0, wb), BAD);
        is("thing(2, 0), full", x.thing(2, 0), BAD);
        isAll("a seventh", x, before);
    }

    @Says("WORTH (0 .. 99: what it has of it in a year)")
    static void worths() {
        for (int worth : new int[] {0, 1, 99}) {
            LastMender x = people(1, 0);
            is("thing(0, " + worth * 100 + ")", x.thing(0, worth * 100), 0);
            is("of(0, 11)", x.of(0, 11), worth);
            law(x, "0");
            x.years(1, 3);
            is("purse", x.of(0, 3), 3 * worth);
        }
        is("thing(0, 10000)", people(1, 0).thing(0, 10000), BAD);
        is("thing(0, -100)", people(1, 0).thing(0, -100), BAD);
    }

    @Says("BILL (0 .. 99: what it costs as it breaks)")
    static void bills() {
        for (int bill : new int[] {0, 1, 99}) {
            LastMender x = people(1, 0);
            is("thing(0, " + bill + ")", x.thing(0, bill), 0);
            is("of(0, 12)", x.of(0, 12), bill);
            wear(x, 0, 1);
            law(x, "12");
            is("it breaks", x.years(1, 1), 1);
            is("purse", x.of(0, 3), -bill);
            is("bills", x.of(0, 4), bill);
        }
        is("thing(0, -1)", people(1, 0).thing(0, -1), BAD);
    }

    @Says("STATE (1 .. 3; 3 at first)")
    static void states() {
        LastMender x = people(1, 0);
        x.thing(0, 0);
        law(x, "12");
        int[] due = {3, 2, 1, 3, 2, 1, 3};
        for (int i = 0; i < due.length; i++) {
            is("behind " + i + " years", x.of(0, 13), due[i]);
            is("years(1, 1)", x.years(1, 1), i % 3 == 2 ? 1 : 0);
        }
    }

    @Says("NEXT (a THING's number 0 .. 5, there or not; itself: none; itself at first)")
    static void nexts() {
        LastMender x = people(1, 0);
        x.thing(0, 0);
        x.thing(0, 0);
        is("of(0, 14)", x.of(0, 14), 0);
        is("of(1, 14)", x.of(1, 14), 1);
        for (int next : new int[] {LEAST, -1, 6, MOST}) is("mend(0, 5, " + next + ")", x.mend(0, 5, next), BAD);
        is("mend(0, 5, 5)", x.mend(0, 5, 5), 0);
        is("mend(0, 5, 0)", x.mend(0, 5, 0), 5);
        is("mend(0, 5, 1)", x.mend(0, 5, 1), 0);
        is("of(0, 14)", x.of(0, 14), 1);
    }

    @Says({"LAST: who mended it last", "(nobody at first)", "AGE: years since (0 at first)"})
    static void nobodyAtFirst() {
        LastMender x = people(1, 0);
        for (int t = 0; t < 6; t++) {
            x.thing(0, 0);
            is("of(" + t + ", 15)", x.of(t, 15), NOT);
            is("of(" + t + ", 16)", x.of(t, 16), NOT);
            is("of(" + t + ", 17)", x.of(t, 17), 0);
        }
        x.fix(0);
        is("of(0, 15)", x.of(0, 15), 0);
        is("of(0, 16)", x.of(0, 16), NOT);
    }

    @Says("FORGOTTEN behind F years (0 .. 9; 0: never; 0 at first)")
    static void forgotten() {
        LastMender x = new LastMender();
        for (int f : new int[] {LEAST, -1, 10, MOST}) is("rule(0, " + f + ")", x.rule(0, f), BAD);
        is("rule(0, 9)", x.rule(0, 9), 0);
        is("rule(0, 0)", x.rule(0, 0), 9);
        for (int told = 0; told <= 1; told++) {
            x = people(1, 0, 3, 0);
            x.thing(0, 50);
            x.fix(1);
            if (told == 1) {
                x.rule(0, 9);
                x.rule(0, 0);
            }
            law(x, "0");
            x.years(1, 30);
            x.years(1, 30);
            law(x, "12");
            is("it breaks", x.years(1, 3), 1);
            is("0: never", x.paid(0), 1);
        }
    }

    @Says("HALF (0, 1; 0 at first)")
    static void half() {
        LastMender x = new LastMender();
        for (int v : new int[] {LEAST, -1, 2, MOST}) is("rule(1, " + v + ")", x.rule(1, v), BAD);
        is("rule(1, 1)", x.rule(1, 1), 0);
        is("rule(1, 0)", x.rule(1, 0), 1);
        is("rule(1, 0)", x.rule(1, 0), 0);
    }

    @Says("F (what 0), HALF (1) becomes v: what it was. BAD.")
    static void badRules() {
        LastMender x = new LastMender();
        x.rule(0, 4);
        x.rule(1, 1);
        for (int what : new int[] {LEAST, -1, 2, MOST}) is("rule(" + what + ", 0)", x.rule(what, 0), BAD);
        is("rule(0, 10)", x.rule(0, 10), BAD);
        is("rule(1, 2)", x.rule(1, 2), BAD);
        is("F is as it was", x.rule(0, 4), 4);
        is("HALF is as it was", x.rule(1, 1), 1);
        is("no CHANGE", x.undo(), STATE);
    }

    @Says("SKILL (what 0), FEE (1), WAY (2) of a PERSON, WORTH (3), BILL (4), NEXT (5; 0 .. 5) of a THING becomes v: "
        + "what it was. BAD.")
    static void badMendings() {
        int[] least = {1, 0, 0, 0, 0, 0}, most = {3, 99, 4, 99, 99, 5}, at = {0, 1, 2, 11, 12, 14};
        LastMender x = people(2, 50, 2, 50);
        x.thing(0, 5050);
        x.thing(0, 5050);
        for (int what = 0; what < 6; what++) {
            String call = "mend(1, " + what + ", ..)";
            long was = x.of(1, at[what]);
            for (int v : new int[] {LEAST, least[what] - 1, most[what] + 1, MOST}) is(call, x.mend(1, what, v), BAD);
            for (int number : new int[] {LEAST, -1, 2, MOST}) {
                is("mend(" + number + ", " + what + ", 1)", x.mend(number, what, 1), BAD);
            }
            is("it is as it was", x.of(1, at[what]), was);
            is(call + " least", x.mend(1, what, least[what]), was);
            is(call + " most", x.mend(1, what, most[what]), least[what]);
            is("it became v", x.of(1, at[what]), most[what]);
        }
        long[] before = all(x);
        for (int what : new int[] {LEAST, -1, 6, MOST}) is("mend(0, " + what + ", 1)", x.mend(0, what, 1), BAD);
        isAll("what is BAD", x, before);
    }

    @Says({"Of a PERSON: 0 SKILL, 1 FEE, 2 WAY, 3 PURSE, 4 BILLS paid, 5 FEES paid", "19 THE LAW's number now. VOID: BAD."})
    static void voids() {
        LastMender x = people(2, 5);
        x.thing(0, 0);
        for (int what : new int[] {LEAST, -1, 6, 9, 20, MOST}) is("of(0, " + what + ")", x.of(0, what), VOID);
        for (int what = 0; what <= 5; what++) {
            is("of(0, " + what + ") is told", x.of(0, what) != VOID);
            for (int p : new int[] {LEAST, -1, 1, 5, MOST}) is("of(" + p + ", " + what + ")", x.of(p, what), VOID);
        }
        for (int what = 10; what <= 19; what++) {
            is("of(0, " + what + ") is told", x.of(0, what) != VOID);
            for (int t : new int[] {LEAST, -1, 1, 6, MOST}) is("of(" + t + ", " + what + ")", x.of(t, what), VOID);
        }
    }

    @Says("15 LAST, 16 BEFORE (NOT: nobody)")
    static void nobody() {
        LastMender x = people(2, 5);
        x.thing(0, 0);
        is("of(0, 15)", x.of(0, 15), NOT);
        is("of(0, 16)", x.of(0, 16), NOT);
        x.fix(0);
        is("of(0, 15)", x.of(0, 15), 0);
        is("of(0, 16)", x.of(0, 16), NOT);
        x.fix(0);
        is("of(0, 16)", x.of(0, 16), 0);
    }

    /** Two people, and a row of bytes on SHELF 0. */
    private static LastMender rowOf(int... bytes) {
        LastMender x = people(1, 0, 1, 0);
        Due.bytes(x, 0, bytes);
        return x;
    }

    private static void areThings(LastMender x, int... due) {
        is("count(1)", x.count(1), due.length / 3);
        for (int i = 0; i + 2 < due.length; i += 3) {
            is("owner", x.of(i / 3, 10), due[i]);
            is("worth", x.of(i / 3, 11), due[i + 1]);
            is("bill", x.of(i / 3, 12), due[i + 2]);
        }
    }

    @Says("THINGS FROM A ROW on a SHELF, from place i on, n (1 .. 6) of them: how many came.")
    static void howManyThings() {
        int[] six = {0, 1, 2, 1, 3, 4, 0, 5, 6, 1, 7, 8, 0, 9, 10, 1, 11, 12};
        for (int n : new int[] {LEAST, -1, 0, 7, MOST}) {
            LastMender x = rowOf(six);
            is("things(0, 0, " + n + ")", x.things(0, 0, n), BAD);
            areThings(x);
        }
        for (int n = 1; n <= 6; n++) {
            LastMender x = rowOf(six);
            is("things(0, 0, " + n + ")", x.things(0, 0, n), n);
            areThings(x, Arrays.copyOf(six, 3 * n));
        }
        LastMender x = rowOf(six);
        is("things(0, 12, 1)", x.things(0, 12, 1), 1);
        areThings(x, 0, 9, 10);
    }

    @Says("it ends where the row is missing")
    static void missingRow() {
        LastMender x = people(1, 0);
        for (int shelf = 0; shelf < 6; shelf++) {
            for (int i : new int[] {LEAST, -1, 0, 1, 60, MOST}) is("things(.., " + i + ", 6)", x.things(shelf, i, 6), 0);
        }
        x.row(2, 0, 3);
        x.keep(2, -1);
        is("it was laid away", x.things(2, 0, 1), 0);
        areThings(x);
    }

    @Says({"it ends where the row is missing, ends (", "one is not so, or THINGS are FULL: those ahead came"})
    static void endOfTheRow() {
        LastMender x = rowOf(0, 1, 2, 1, 3, 4);
        is("all of them", x.things(0, 0, 6), 2);
        areThings(x, 0, 1, 2, 1, 3, 4);
        for (int i : new int[] {LEAST, -3, -1, 6, 7, 9, 60, MOST - 1, MOST}) {
            is("things(0, " + i + ", 6)", x.things(0, i, 6), 0);
        }
        is("from the second", x.things(0, 3, 6), 1);
        x = rowOf();
        is("a row of none", x.things(0, 0, 1), 0);
        areThings(x);
    }

    @Says("ends (within a three, too)")
    static void endWithinThree() {
        LastMender x = rowOf(0, 1, 2, 1, 3);
        is("two of three", x.things(0, 0, 2), 1);
        areThings(x, 0, 1, 2);
        x = rowOf(0, 1, 2, 1);
        is("one of three", x.things(0, 0, 2), 1);
        areThings(x, 0, 1, 2);
        x = rowOf(1, 0);
        is("two alone", x.things(0, 0, 1), 0);
        is("the last alone", x.things(0, 1, 1), 0);
        areThings(x);
    }

    @Says("one is not so")
    static void notSo() {
        int[][] wrong = {{2, 1, 1}, {-1, 1, 1}, {127, 1, 1}, {0, 100, 1}, {0, -1, 1}, {0, 1, 100}, {0, 1, -1}, {0, 127, 1},
            {0, 1, -128}};
        for (int[] one : wrong) {
            LastMender x = rowOf(one);
            is("one wrong", x.things(0, 0, 1), 0);
            areThings(x);
            x = rowOf(1, 99, 99, one[0], one[1], one[2], 0, 0, 0);
            is("those ahead came", x.things(0, 0, 3), 1);
            areThings(x, 1, 99, 99);
        }
    }

    @Says("THINGS are FULL: those ahead came")
    static void fullOfThings() {
        LastMender x = rowOf(0, 1, 2, 1, 3, 4, 0, 5, 6);
        for (int t = 0; t < 4; t++) x.thing(0, 0);
        is("two of three", x.things(0, 0, 3), 2);
        areThings(x, 0, 0, 0, 0, 0, 0, 0, 0, 0, 0, 0, 0, 0, 1, 2, 1, 3, 4);
        is("none", x.things(0, 0, 3), 0);
        is("count(1)", x.count(1), 6);
    }

    @Says("BAD, -12 (no ROW of bytes; a SHELF that holds nothing is missing).")
    static void noRowOfBytes() {
        LastMender x = people(1, 0);
        for (int sort = 1; sort <= 4; sort++) {
            x.row(sort, sort, 3);
            is("a row of sort " + sort, x.things(sort, 0, 1), OTHER_KIND);
        }
        x.row(1, 3, 0);
        is("a row of no longs", x.things(1, 0, 1), OTHER_KIND);
        x.body(0);
        x.keep(5, 0);
        is("a PERSON", x.things(5, 0, 1), OTHER_KIND);
        for (int shelf : new int[] {LEAST, -1, 6, MOST}) is("things(" + shelf + ", 0, 1)", x.things(shelf, 0, 1), BAD);
        is("BAD ahead of -12", x.things(1, 0, 0), BAD);
        is("BAD ahead of -12", x.things(5, 0, 7), BAD);
        x.row(0, 0, 3);
        is("bytes of 0", x.things(0, 0, 1), 1);
        areThings(x, 0, 0, 0);
    }
}
