import java.io.IOException;

/** The most that one object is used for. */
public final class EdgesOfUseTest extends Edges {
    public static void main(String[] args) throws IOException, IllegalAccessException {
        run(EdgesOfUseTest.class);
    }

    @Says("An object is used for at most 512 calls after it has been made")
    static void bestThroughManyChanges() {
        LastMender x = people(3, 0, 1, 2);
        x.thing(0, 2090);
        x.mend(0, 2, 4);
        law(x, "3");
        int fees = 0;
        for (int i = 1; i <= 125; i++) {
            int fee = i * 37 % 100, mends = 0;
            x.mend(0, 1, fee);
            if (x.now(4, 0) == 1) mends = fee;
            x.years(i, 1);
            fees += mends;
            is("the fees of " + i + " years", x.of(0, 5), fees);
        }
    }

    @Says("An object is used for at most 512 calls")
    static void manyCallsOfOneKind() {
        LastMender x = people(3, 5);
        x.thing(0, 1);
        for (int i = 1; i <= 508; i++) is("fix(0)", x.fix(0), 3);
        is("fees", x.of(0, 5), 508 * 5);
        x = people(3, 5);
        x.thing(0, 100);
        law(x, "0");
        for (int i = 1; i <= 500; i++) x.years(i, 30);
        is("purse", x.of(0, 3), 15000);
        is("whole", x.count(2), 15000);
        x = new LastMender();
        for (int i = 0; i < 256; i++) {
            is("feed(49)", x.feed('1'), 1);
            is("law()", x.law(), 1);
        }
        x = new LastMender();
        x.body(7);
        for (int i = 1; i <= 511; i++) is("act(0, 3, 1)", x.act(0, 3, 1), 8);
    }

    @Says("Promise 1: A new object")
    static void objectsApart() {
        LastMender x = new LastMender(), other = new LastMender();
        for (int i = 0; i < 50; i++) x.body(0);
        for (int i = 0; i < 5; i++) x.person(1, 1);
        for (int i = 0; i < 6; i++) x.thing(0, 0);
        x.row(0, 0, 60);
        x.feed(0);
        x.image();
        x.years(1, 1);
        x.mend(0, 1, 2);
        for (int what = 0; what < 8; what++) is("count(" + what + ") of another object", other.count(what), 0);
        is("back() of another object", other.back(), STATE);
        is("a row of another object", other.put(0, 0, 1), NOTHING_THERE);
    }

    @Says({"BAD (-1): no such number, or it is not as said; NOT (-2): as told; FULL (-3); STATE (-5): as told",
        "VOID is -2000000000."})
    static void constants() {
        is("BAD", LastMender.BAD, -1);
        is("NOT", LastMender.NOT, -2);
        is("FULL", LastMender.FULL, -3);
        is("STATE", LastMender.STATE, -5);
        is("VOID", LastMender.VOID, -2000000000);
    }

    /** All is full: people, things, the tape, bodies; on SHELF 0 nothing, on 1 a PERSON, on 2 bytes, on 3 ints. */
    private static LastMender full() {
        LastMender x = people(1, 1, 2, 2, 3, 3, 1, 4, 2, 5);
        for (int t = 0; t < 6; t++) x.thing(t % 5, 1011 * (t + 1));
        for (int i = 0; i < 50; i++) x.body(i % 8);
        x.keep(1, 7);
        Due.bytes(x, 2, 4, 5, 6);
        x.row(3, 2, 4);
        for (int i = 0; i < 120; i++) x.feed('1');
        return x;
    }

    @Says("Answers, of several the one named first")
    static void namedFirst() {
        LastMender x = full();
        is("person: BAD, FULL", x.person(0, 0), BAD);
        is("thing: BAD, FULL", x.thing(5, 0), BAD);
        is("feed: BAD, FULL", x.feed(256), BAD);
        is("body: BAD, FULL", x.body(8), BAD);
        is("things: BAD, -12", x.things(3, 0, 0), BAD);
        is("told: BAD, -11", x.told(0, 6), BAD);
        is("told: BAD, -12", x.told(3, 6), BAD);
        is("row: BAD, -14", x.row(0, 5, -1), BAD);
        is("put: -11, -13", x.put(0, -1, 0), NOTHING_THERE);
        is("put: -12, -13", x.put(1, -1, 0), OTHER_KIND);
        is("shift: BAD, -11", x.shift(6, 0, 0, 0, 1), BAD);
        is("shift: BAD, -12", x.shift(1, 0, 6, 0, 1), BAD);
        is("shift: BAD, -13", x.shift(2, -1, 6, -1, 1), BAD);
        is("shift: -11, -12", x.shift(1, 0, 0, 0, 1), NOTHING_THERE);
        is("shift: -11, -13", x.shift(2, -1, 0, 0, 1), NOTHING_THERE);
        is("shift: -12, -13", x.shift(2, -1, 3, 0, 1), OTHER_KIND);
        is("taken: BAD, -11", x.taken(0, 8), BAD);
        is("taken: BAD, -12", x.taken(2, 8), BAD);
        is("paid: BAD, STATE", x.paid(6), BAD);
    }

    @Says("What is answered so changes nothing.")
    static void changesNothing() {
        LastMender x = full();
        x.mend(0, 1, 9);
        x.mend(0, 1, 8);
        x.undo();
        x.act(7, 3, 1);
        long[] before = all(x);
        long refused = x.person(1, 0) + x.person(0, 0) + x.thing(0, 0) + x.thing(5, 0) + x.things(1, 0, 1) + x.things(6, 0, 1)
            + x.rule(0, 10) + x.rule(2, 0) + x.mend(0, 0, 4) + x.mend(5, 0, 1) + x.mend(6, 3, 1) + x.of(5, 0) + x.feed(1)
            + x.feed(-1) + x.fix(5) + x.fix(60) + x.years(1, 0) + x.years(1, 31) + x.paid(0) + x.layer(0, 0) + x.told(1, 0)
            + x.told(0, 0) + x.over(0) + x.now(7, 0) + x.ruled(1, 21, 0) + x.ruined(1, 1, 0) + x.back() + x.body(8) + x.body(0)
            + x.trace(24) + x.keep(0, 50) + x.keep(0, -2) + x.row(2, 0, 61) + x.row(2, 0, -1) + x.put(2, 3, 1) + x.put(1, 0, 1)
            + x.shift(2, 1, 2, 0, 3) + x.shift(2, 0, 3, 0, 1) + x.taken(2, 0) + x.count(8);
        is("all of them are refused", refused < 0);
        is("worth", x.worth(7, 0, 0), NO_LONG);
        is("smith", x.smith(1, 0, 0, 0), NO_LONG);
        is("gift", x.gift(1, 0, 0), NO_LONG);
        is("debts", x.debts(7, 0), NO_LONG);
        is("element", x.element(0, 0), NO_LONG);
        isAll("what is refused", x, before);
        for (int i = 0; i < 4; i++) is("a byte", x.element(2, i), i < 3 ? i + 4 : NO_LONG);
        for (int i = 0; i < 4; i++) is("an int", x.element(3, i), 0);
        is("the PERSON", x.taken(1, 0), 7);
        is("nothing there", x.taken(0, 0), NOTHING_THERE);
        is("THE TRACE", x.trace(0), 81);
        is("what was UNDONE", x.redo(), 0);
        is("no IMAGE", x.back(), STATE);
        is("F", x.rule(0, 0), 0);
        is("HALF", x.rule(1, 0), 0);
        is("none to DO AGAIN", x.redo(), STATE);
    }
}
