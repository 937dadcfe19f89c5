import java.io.IOException;

/** Boundary cases of SHELVES, ROWS and the host's refusals, and of promises 30 to 36. */
public final class EdgesShelvesTest extends Edges {
    private static final int[] NO_SHELF = {LEAST, -1, 6, 7, MOST};

    public static void main(String[] args) throws IOException, IllegalAccessException {
        run(EdgesShelvesTest.class);
    }

    /** On SHELF 0 nothing, on 1 a PERSON, on 2 bytes 1 to 5, on 3 shorts, on 4 bytes 11 to 13, on 5 a RUINED. */
    private static LastMender shelves() {
        LastMender x = new LastMender();
        x.body(0);
        x.body(7);
        x.keep(1, 0);
        Due.bytes(x, 2, 1, 2, 3, 4, 5);
        x.row(3, 1, 5);
        Due.bytes(x, 4, 11, 12, 13);
        x.keep(5, 1);
        return x;
    }

    private static void elements(LastMender x, int shelf, long... due) {
        for (int i = 0; i < due.length; i++) is("element(" + shelf + ", " + i + ")", x.element(shelf, i), due[i]);
        is("none behind", x.element(shelf, due.length), NO_LONG);
    }

    private static void unchanged(LastMender x) {
        elements(x, 0);
        elements(x, 1);
        elements(x, 2, 1, 2, 3, 4, 5);
        elements(x, 3, 0, 0, 0, 0, 0);
        elements(x, 4, 11, 12, 13);
        is("nothing there", x.taken(0, 0), NOTHING_THERE);
        is("the PERSON", x.taken(1, 0), 0);
        is("the RUINED", x.taken(5, 0), 7);
        is("the shorts", x.shift(3, 0, 3, 0, 5), 5);
        is("the bytes", x.shift(2, 0, 2, 0, 5), 5);
    }

    @Says("SHELVES 0 .. 5 each hold nothing (at first)")
    static void sixShelves() {
        LastMender x = new LastMender();
        for (int shelf = 0; shelf < 6; shelf++) {
            is("taken(" + shelf + ", 0)", x.taken(shelf, 0), NOTHING_THERE);
            is("put(" + shelf + ", 0, 1)", x.put(shelf, 0, 1), NOTHING_THERE);
            is("element(" + shelf + ", 0)", x.element(shelf, 0), NO_LONG);
        }
        for (int shelf = 0; shelf < 6; shelf++) is("row(" + shelf + ", 2, 1)", x.row(shelf, 2, 1), 1);
        for (int shelf = 0; shelf < 6; shelf++) x.put(shelf, 0, 100 + shelf);
        for (int shelf = 0; shelf < 6; shelf++) elements(x, shelf, 100 + shelf);
    }

    @Says("A SHELF holds nothing (body -1), or a PERSON: 1. BAD.")
    static void badKeep() {
        LastMender x = shelves();
        for (int shelf : NO_SHELF) {
            is("keep(" + shelf + ", 0)", x.keep(shelf, 0), BAD);
            is("keep(" + shelf + ", -1)", x.keep(shelf, -1), BAD);
        }
        for (int body : new int[] {LEAST, -2, 2, 49, 50, MOST}) {
            for (int shelf = 0; shelf < 6; shelf++) is("keep(" + shelf + ", " + body + ")", x.keep(shelf, body), BAD);
        }
        unchanged(x);
        is("keep(0, 1)", x.keep(0, 1), 1);
        is("taken(0, 0)", x.taken(0, 0), 7);
        for (int shelf = 0; shelf < 6; shelf++) {
            is("keep(" + shelf + ", -1)", x.keep(shelf, -1), 1);
            is("nothing there", x.taken(shelf, 0), NOTHING_THERE);
            is("nothing there", x.put(shelf, 0, 1), NOTHING_THERE);
        }
        is("keep(0, -1) again", x.keep(0, -1), 1);
        is("nobody is there", new LastMender().keep(0, 0), BAD);
    }

    @Says("A SHELF holds a ROW: 1. BAD (sort, n above 60); -14.")
    static void badRows() {
        LastMender x = shelves();
        for (int shelf : NO_SHELF) is("row(" + shelf + ", 0, 1)", x.row(shelf, 0, 1), BAD);
        for (int shelf = 0; shelf < 6; shelf++) {
            for (int sort : new int[] {LEAST, -1, 5, MOST}) {
                is("row(" + shelf + ", " + sort + ", 1)", x.row(shelf, sort, 1), BAD);
                is("BAD ahead of -14", x.row(shelf, sort, -1), BAD);
            }
            for (int n : new int[] {61, 62, MOST}) is("row(" + shelf + ", 0, " + n + ")", x.row(shelf, 0, n), BAD);
            for (int n : new int[] {LEAST, -60, -1}) is("row(" + shelf + ", 4, " + n + ")", x.row(shelf, 4, n), SIZE_BELOW);
        }
        is("BAD ahead of -14", x.row(6, 0, -1), BAD);
        unchanged(x);
    }

    @Says("of 0 .. 60 elements, 0 at first (false)")
    static void noneToSixty() {
        for (int sort = 0; sort < 5; sort++) {
            LastMender x = new LastMender();
            is("of none", x.row(0, sort, 0), 1);
            is("element(0, 0)", x.element(0, 0), NO_LONG);
            is("put(0, 0, 1)", x.put(0, 0, 1), NO_PLACE);
            is("of one", x.row(0, sort, 1), 1);
            elements(x, 0, 0);
            is("of sixty", x.row(0, sort, 60), 1);
            for (int i = 0; i < 60; i++) {
                is("0 at first", x.element(0, i), 0);
                is("put", x.put(0, i, 1), 1);
                is("it became so", x.element(0, i), 1);
            }
            is("the 61st", x.put(0, 60, 1), NO_PLACE);
            is("anew", x.row(0, sort, 60), 1);
            for (int i = 0; i < 60; i++) is("0 at first", x.element(0, i), 0);
        }
    }

    @Says("what is put in keeps its lowest bits")
    static void lowestBits() {
        LastMender x = new LastMender();
        for (int sort = 0; sort < 4; sort++) x.row(sort, sort, 3);
        int[] bits = {8, 16, 32, 64};
        for (int sort = 0; sort < 4; sort++) {
            long half = 1L << (bits[sort] - 1), most = half - 1;
            long[][] puts = {{most, most}, {half, -half}, {-half, -half}, {-half - 1, most}, {half + 1, -half + 1}, {-1, -1},
                {sort < 3 ? 1L << bits[sort] : 0, 0}, {sort < 3 ? (1L << bits[sort]) + 5 : 5, 5},
                {Long.MAX_VALUE, sort < 3 ? -1 : Long.MAX_VALUE}, {Long.MIN_VALUE, sort < 3 ? 0 : Long.MIN_VALUE}};
            for (long[] put : puts) {
                is("put(" + sort + ", 1, " + put[0] + ")", x.put(sort, 1, put[0]), 1);
                elements(x, sort, 0, put[1], 0);
            }
        }
    }

    @Says("(a boolean: whether it is not 0; 1 or 0)")
    static void booleans() {
        LastMender x = new LastMender();
        x.row(0, 4, 2);
        for (long v : new long[] {1, 2, -1, 256, 1L << 32, 1L << 63, Long.MAX_VALUE}) {
            is("put(0, 0, " + v + ")", x.put(0, 0, v), 1);
            elements(x, 0, 1, 0);
            is("put(0, 0, 0)", x.put(0, 0, 0), 1);
            elements(x, 0, 0, 0);
        }
    }

    @Says("Element i of a ROW becomes v: 1. BAD, -11, -12, -13.")
    static void badPut() {
        LastMender x = shelves();
        for (int shelf : NO_SHELF) is("put(" + shelf + ", 0, 9)", x.put(shelf, 0, 9), BAD);
        for (int i : new int[] {LEAST, -1, 5, 6, 60, MOST}) {
            is("nothing there, " + i, x.put(0, i, 9), NOTHING_THERE);
            is("a PERSON, " + i, x.put(1, i, 9), OTHER_KIND);
            is("a ROW, " + i, x.put(2, i, 9), NO_PLACE);
        }
        is("nothing there", x.put(0, 0, 9), NOTHING_THERE);
        is("a PERSON", x.put(1, 0, 9), OTHER_KIND);
        unchanged(x);
        is("put(2, 0, 9)", x.put(2, 0, 9), 1);
        is("put(2, 4, 8)", x.put(2, 4, 8), 1);
        elements(x, 2, 9, 2, 3, 4, 8);
    }

    @Says("Element i of a ROW; Long.MIN_VALUE: BAD, -11 to -13.")
    static void badElement() {
        LastMender x = shelves();
        for (int shelf : NO_SHELF) is("element(" + shelf + ", 0)", x.element(shelf, 0), NO_LONG);
        for (int i : new int[] {LEAST, -1, 0, 4, 5, MOST}) {
            is("nothing there, " + i, x.element(0, i), NO_LONG);
            is("a PERSON, " + i, x.element(1, i), NO_LONG);
        }
        for (int i : new int[] {LEAST, -1, 5, 6, 60, MOST}) is("a ROW, " + i, x.element(2, i), NO_LONG);
        elements(x, 2, 1, 2, 3, 4, 5);
    }

    @Says("n elements of a ROW from i on come to another one (or the same) from j on, as they all were before: n.")
    static void shifting() {
        for (int i = 0; i <= 5; i++) {
            for (int j = 0; j <= 5; j++) {
                for (int n = 0; n <= 5; n++) {
                    LastMender x = shelves();
                    boolean fits = i + n <= 5 && j + n <= 5;
                    is("shift(2, " + i + ", 2, " + j + ", " + n + ")", x.shift(2, i, 2, j, n), fits ? n : NO_PLACE);
                    long[] due = {1, 2, 3, 4, 5};
                    for (int k = 0; fits && k < n; k++) due[j + k] = i + k + 1;
                    elements(x, 2, due);
                }
            }
        }
        for (int sort = 0; sort < 5; sort++) {
            LastMender x = new LastMender();
            x.row(0, sort, 2);
            x.row(1, sort, 2);
            x.put(0, 0, 1);
            is("a ROW of sort " + sort, x.shift(0, 0, 1, 1, 1), 1);
            elements(x, 1, 0, 1);
        }
    }

    @Says("BAD, -11 (either), -12 (no ROWS, or of unlike sorts), -13.")
    static void badShift() {
        LastMender x = shelves();
        for (int shelf : NO_SHELF) {
            for (int other = 0; other < 6; other++) {
                is("no such SHELF", x.shift(shelf, 0, other, 0, 0), BAD);
                is("no such other", x.shift(other, 9, shelf, 9, -1), BAD);
            }
        }
        for (int other = 0; other < 6; other++) {
            is("nothing there", x.shift(0, 9, other, 9, 9), NOTHING_THERE);
            is("nothing in the other", x.shift(other, 9, 0, 9, -1), NOTHING_THERE);
            if (other == 0) continue;
            is("a PERSON", x.shift(1, 9, other, 9, 9), OTHER_KIND);
            is("a PERSON in the other", x.shift(other, 0, 5, 0, 0), OTHER_KIND);
            if (other == 3) continue;
            is("of another sort", x.shift(3, 9, other, 9, -1), OTHER_KIND);
            is("to another sort", x.shift(other, 0, 3, 0, 0), OTHER_KIND);
        }
        int[][] places = {{-1, 0, 1}, {0, -1, 1}, {LEAST, 0, 1}, {0, LEAST, 1}, {5, 0, 1}, {0, 3, 1}, {3, 0, 3}, {0, 1, 3},
            {0, 0, 4}, {0, 0, MOST}, {0, 0, -1}, {0, 0, LEAST}, {1, 1, -1}, {MOST, 0, 1}, {0, MOST, 1}, {MOST, MOST, MOST},
            {6, 0, 0}, {0, 4, 0}, {-1, 0, 0}, {0, -1, 0}, {1, 0, MOST}, {MOST, 1, LEAST}};
        for (int[] p : places) {
            is("shift(2, " + p[0] + ", 4, " + p[1] + ", " + p[2] + ")", x.shift(2, p[0], 4, p[1], p[2]), NO_PLACE);
        }
        unchanged(x);
        is("none, at the ends", x.shift(2, 5, 4, 3, 0), 0);
        is("up to the ends", x.shift(2, 2, 4, 0, 3), 3);
        elements(x, 4, 3, 4, 5);
        elements(x, 2, 1, 2, 3, 4, 5);
    }

    @Says("What a SHELF holds, taken for a PERSON of KIND k (0 .. 7), or under it: its KIND. BAD, -11, -12.")
    static void badTaken() {
        LastMender x = shelves();
        for (int shelf : NO_SHELF) is("taken(" + shelf + ", 0)", x.taken(shelf, 0), BAD);
        for (int k : new int[] {LEAST, -1, 8, MOST}) {
            for (int shelf = 0; shelf < 6; shelf++) is("taken(" + shelf + ", " + k + ")", x.taken(shelf, k), BAD);
        }
        for (int k = 0; k < 8; k++) {
            is("nothing there, " + k, x.taken(0, k), NOTHING_THERE);
            is("a ROW, " + k, x.taken(2, k), OTHER_KIND);
            is("a PERSON, " + k, x.taken(1, k), k == 0 ? 0 : OTHER_KIND);
            boolean above = k == 0 || k == 1 || k == 4 || k == 7;
            is("a RUINED, " + k, x.taken(5, k), above ? 7 : OTHER_KIND);
        }
        unchanged(x);
    }

    @Says("1 LEAVER under PERSON; 2 NIGHT under PERSON; 3 GOOD under NIGHT; 4 SMITH under LEAVER; 5 BEST under GOOD; "
        + "6 TOLD under PERSON; 7 RUINED under SMITH.")
    static void under() {
        String[] taken = {"0", "01", "02", "023", "014", "0235", "06", "0147"};
        LastMender x = new LastMender();
        for (int kind = 0; kind < 8; kind++) {
            x.body(kind);
            x.keep(3, kind);
            for (int k = 0; k < 8; k++) {
                is(kind + " taken for " + k, x.taken(3, k), taken[kind].indexOf('0' + k) >= 0 ? kind : OTHER_KIND);
            }
        }
    }

    @Says("-11 nothing is there where something is wanted; -12 it is of another kind; -13 a place that is not there; "
        + "-14 a size below 0.")
    static void refusals() {
        LastMender x = shelves();
        is("-11", x.taken(0, 0), -11);
        is("-12", x.taken(2, 0), -12);
        is("-13", x.put(2, 5, 0), -13);
        is("-14", x.row(2, 0, -1), -14);
        is("BAD", x.taken(6, 0), -1);
        is("what is taken is the latest", x.row(5, 0, 1), 1);
        is("no PERSON now", x.taken(5, 7), -12);
        is("a PERSON now", x.keep(2, 0), 1);
        is("no ROW now", x.put(2, 0, 1), -12);
    }

    @Says("6 BODIES, 7 bodies that ran in the latest act() (all, kept or not). BAD.")
    static void counts() {
        LastMender x = people(1, 0, 1, 0, 1, 0);
        x.thing(0, 0);
        x.thing(0, 0);
        law(x, "t?12;0");
        x.years(1, 7);
        x.feed(0);
        for (int fee = 1; fee <= 5; fee++) x.mend(0, 1, fee);
        x.undo();
        for (int i = 0; i < 6; i++) x.body(7);
        x.act(5, 3, 1);
        int[] due = {3, 2, 12, 2, 1, 4, 6, 14};
        for (int what = 0; what < 8; what++) is("count(" + what + ")", x.count(what), due[what]);
        for (int what : new int[] {LEAST, -1, 8, MOST}) is("count(" + what + ")", x.count(what), BAD);
    }
}
