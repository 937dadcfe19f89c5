import java.io.IOException;

/** Boundary cases of BODIES, ACTS and THE TRACE, and of promises 27 to 29. */
public final class EdgesActsTest extends Edges {
    private static final int MENDS = 0, PAYS = 1, LEAVES = 2, TELLS = 3;

    public static void main(String[] args) throws IOException, IllegalAccessException {
        run(EdgesActsTest.class);
    }

    /** One BODY of each KIND, its number being its KIND. */
    private static LastMender kinds() {
        LastMender x = new LastMender();
        for (int kind = 0; kind < 8; kind++) is("body(" + kind + ")", x.body(kind), kind);
        return x;
    }

    private static void act(LastMender x, int body, int act, int with, int due, int... trace) {
        String call = "act(" + body + ", " + act + ", " + with + ")";
        is(call, x.act(body, act, with), due);
        is(call + " ran", x.count(7), trace.length);
        for (int i = 0; i < trace.length; i++) is(call + " trace(" + i + ")", x.trace(i), trace[i]);
        is(call + " no more", x.trace(trace.length), BAD);
    }

    @Says("are kept by call as BODIES 0 .. 49")
    static void fifty() {
        LastMender x = new LastMender();
        for (int i = 0; i < 50; i++) {
            is("act(" + i + ", ..)", x.act(i, MENDS, 1), 0);
            is("body(" + i % 8 + ")", x.body(i % 8), i);
            is("count(6)", x.count(6), i + 1);
        }
        is("a 51st", x.body(0), FULL);
        is("count(6)", x.count(6), 50);
        is("act(49, 0, 3)", x.act(49, MENDS, 3), 3 + 49 + 3);
        is("act(48, 0, 3)", x.act(48, MENDS, 3), 3 + 48);
        is("act(50, 0, 3)", x.act(50, MENDS, 3), 0);
    }

    @Says("A PERSON of a KIND (0 .. 7) is kept: its number. BAD, FULL.")
    static void badKinds() {
        LastMender x = new LastMender();
        for (int kind : new int[] {LEAST, -1, 8, MOST}) is("body(" + kind + ")", x.body(kind), BAD);
        is("count(6)", x.count(6), 0);
        for (int i = 0; i < 50; i++) x.body(7);
        for (int kind : new int[] {LEAST, -1, 8, MOST}) is("body(" + kind + "), full", x.body(kind), BAD);
        is("body(0), full", x.body(0), FULL);
        is("body(7), full", x.body(7), FULL);
    }

    @Says("An ACT (0 .. 3) of a PERSON with x. 0, and no TRACE then: no such PERSON, ACT.")
    static void noSuch() {
        LastMender x = new LastMender();
        is("nobody yet", x.act(0, MENDS, 5), 0);
        x.body(0);
        x.body(0);
        for (int act : new int[] {LEAST, -1, 4, MOST}) {
            act(x, 1, MENDS, 5, 6, 1);
            act(x, 1, act, 5, 0);
        }
        for (int body : new int[] {LEAST, -1, 2, 49, 50, MOST}) {
            act(x, 1, LEAVES, 5, 4, 11);
            act(x, body, LEAVES, 5, 0);
        }
        act(x, 1, TELLS, 5, 12, 2, 10, 1, 11);
    }

    @Says("ACTS with x (an int that wraps)")
    static void wrapping() {
        LastMender x = kinds();
        for (int v : new int[] {MOST, MOST - 1, LEAST, LEAST + 1, 1 << 30, -(1 << 30), -1}) {
            act(x, 1, MENDS, v, v + 1 + 3, 20, 1);
            act(x, 1, PAYS, v, (v + 4) * 2, 10, 20, 1);
            act(x, 2, PAYS, v, -((v + 2) * 2), 30, 10, 1);
            act(x, 3, PAYS, v, -((v + 1 + 3) * 2), 41, 30, 10, 1);
            act(x, 3, LEAVES, v, (v ^ 3) * 3, 40, 11);
            act(x, 4, LEAVES, v, (v ^ 4) - 9, 50, 11, 20, 1);
            act(x, 6, MENDS, v, (v + 6) * 2, 70, 1);
            act(x, 6, PAYS, v, (v + 6) * 4, 10, 70, 1);
            act(x, 0, TELLS, v, v * 2 - 1, 2, 10, 1, 11);
        }
        act(x, 1, MENDS, MOST, LEAST + 3, 20, 1);
        act(x, 0, LEAVES, LEAST, LEAST, 11);
    }

    @Says("mends(..) and so on: the body of its own KIND, or of the next KIND above that has one")
    static void nextAbove() {
        LastMender x = kinds();
        act(x, 0, MENDS, 10, 10, 1);
        act(x, 1, LEAVES, 10, 11, 11);
        act(x, 2, MENDS, 10, 12, 1);
        act(x, 3, MENDS, 10, 13, 1);
        act(x, 4, MENDS, 10, 17, 20, 1);
        act(x, 4, PAYS, 10, 34, 10, 20, 1);
        act(x, 5, MENDS, 10, 15, 1);
        act(x, 5, LEAVES, 10, (10 ^ 5) * 3, 40, 11);
        act(x, 5, PAYS, 10, -32, 41, 30, 10, 1);
        act(x, 6, LEAVES, 10, 12, 11);
        act(x, 7, MENDS, 10, 20, 20, 1);
        act(x, 7, LEAVES, 10, (10 ^ 7) - 12, 50, 11, 20, 1);
        act(x, 1, TELLS, 10, 28 - 0, 2, 10, 20, 1, 11);
        act(x, 6, TELLS, 10, 64 - 7, 2, 10, 70, 1, 11);
    }

    @Says("super: from the KIND above the body's on.")
    static void aboveTheBodys() {
        LastMender x = kinds();
        // BEST has no body that leaves: GOOD's runs, and its super is NIGHT's, not BEST's, on.
        act(x, 5, LEAVES, 1, (1 ^ 5) * 3, 40, 11);
        act(x, 5, TELLS, 1, (-14 - 12) ^ 5, 60, 2, 41, 30, 10, 1, 40, 11);
        act(x, 7, PAYS, 1, 22 + 5 - 12, 80, 10, 20, 1, 50, 11, 20, 1);
        act(x, 7, TELLS, 1, 15 - (6 - 12) - 1, 81, 2, 80, 10, 20, 1, 50, 11, 20, 1, 50, 11, 20, 1);
        act(x, 4, TELLS, 1, 16 - (5 - 9), 2, 10, 20, 1, 50, 11, 20, 1);
    }

    @Says("THE TRACE: numbers of the bodies that ran in the latest act(), as they began; the first 24 are kept.")
    static void latestAct() {
        LastMender x = kinds();
        is("none yet", x.trace(0), BAD);
        is("none yet", x.count(7), 0);
        act(x, 7, TELLS, 1, 20, 81, 2, 80, 10, 20, 1, 50, 11, 20, 1, 50, 11, 20, 1);
        for (int i = 14; i <= 24; i++) is("trace(" + i + ")", x.trace(i), BAD);
        act(x, 0, MENDS, 1, 1, 1);
        for (int i = 1; i <= 24; i++) is("trace(" + i + ") of the latest", x.trace(i), BAD);
        x.body(0);
        x.keep(0, 0);
        is("others leave it", x.trace(0), 1);
    }

    @Says("THE TRACE's i-th body. BAD.")
    static void badTrace() {
        LastMender x = kinds();
        x.act(0, TELLS, 1);
        for (int i : new int[] {LEAST, -1, 4, 5, 23, 24, MOST}) is("trace(" + i + ")", x.trace(i), BAD);
        is("trace(0)", x.trace(0), 2);
        is("trace(3)", x.trace(3), 11);
    }
}
