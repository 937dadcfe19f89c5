/** Promises 30 to 36. */
public final class ShelvesTest {
    private static final Due DUE = new Due("ShelvesTest");

    public static void main(String[] args) {
        keepAndTaken();
        rows();
        lowestBits();
        shift();
        count();
        DUE.end();
    }

    private static void keepAndTaken() {
        LastMender x = new LastMender();
        DUE.is("30: keep(0, 0)", x.keep(0, 0), LastMender.BAD);
        for (int i = 0; i < 8; i++) x.body(i);
        DUE.is("30: keep(-1, 0)", x.keep(-1, 0), LastMender.BAD);
        DUE.is("30: keep(6, -1)", x.keep(6, -1), LastMender.BAD);
        DUE.is("30: keep(0, -2)", x.keep(0, -2), LastMender.BAD);
        DUE.is("30: keep(0, 8)", x.keep(0, 8), LastMender.BAD);
        DUE.is("35: nothing", x.taken(0, 0), -11);
        DUE.is("35: taken(6, 0)", x.taken(6, 0), LastMender.BAD);
        DUE.is("35: taken(0, 8)", x.taken(0, 8), LastMender.BAD);
        DUE.is("35: taken(0, -1)", x.taken(0, -1), LastMender.BAD);
        int[] above = {-1, 0, 0, 2, 1, 3, 0, 4};
        for (int kind = 0; kind < 8; kind++) {
            DUE.is("30: keep(5, " + kind + ")", x.keep(5, kind), 1);
            for (int k = 0; k < 8; k++) {
                boolean under = false;
                for (int up = kind; up >= 0; up = above[up]) under = under || up == k;
                DUE.is("35: " + kind + " taken for " + k, x.taken(5, k), under ? kind : -12);
            }
        }
        DUE.is("32: a person is no row", x.put(5, 0, 1), -12);
        DUE.is("33: a person is no row", x.element(5, 0), Long.MIN_VALUE);
        DUE.is("30: keep(5, -1)", x.keep(5, -1), 1);
        DUE.is("35: nothing again", x.taken(5, 0), -11);
        x.row(5, 0, 1);
        DUE.is("35: a row", x.taken(5, 0), -12);
    }

    private static void rows() {
        LastMender x = new LastMender();
        DUE.is("31: row(6, 0, 1)", x.row(6, 0, 1), LastMender.BAD);
        DUE.is("31: row(-1, 0, 1)", x.row(-1, 0, 1), LastMender.BAD);
        DUE.is("31: row(0, -1, 1)", x.row(0, -1, 1), LastMender.BAD);
        DUE.is("31: row(0, 5, 1)", x.row(0, 5, 1), LastMender.BAD);
        DUE.is("31: row(0, 0, 61)", x.row(0, 0, 61), LastMender.BAD);
        DUE.is("31: row(0, 0, -1)", x.row(0, 0, -1), -14);
        DUE.is("31: row(0, 5, -1)", x.row(0, 5, -1), LastMender.BAD);
        DUE.is("31: row(6, 0, -1)", x.row(6, 0, -1), LastMender.BAD);
        DUE.is("32: nothing there", x.put(0, 0, 1), -11);
        DUE.is("33: nothing there", x.element(0, 0), Long.MIN_VALUE);
        DUE.is("31: row(0, 3, 60)", x.row(0, 3, 60), 1);
        for (int i = 0; i < 60; i++) DUE.is("33: element", x.element(0, i), 0);
        DUE.is("33: element(0, 60)", x.element(0, 60), Long.MIN_VALUE);
        DUE.is("33: element(0, -1)", x.element(0, -1), Long.MIN_VALUE);
        DUE.is("33: element(6, 0)", x.element(6, 0), Long.MIN_VALUE);
        DUE.is("32: put(6, 0, 1)", x.put(6, 0, 1), LastMender.BAD);
        DUE.is("32: put(0, 60, 1)", x.put(0, 60, 1), -13);
        DUE.is("32: put(0, -1, 1)", x.put(0, -1, 1), -13);
        DUE.is("32: put(0, 59, 7)", x.put(0, 59, 7), 1);
        DUE.is("33: element(0, 59)", x.element(0, 59), 7);
        DUE.is("31: anew", x.row(0, 3, 60), 1);
        DUE.is("33: 0 at first", x.element(0, 59), 0);
        DUE.is("31: none", x.row(0, 3, 0), 1);
        DUE.is("32: put(0, 0, 1)", x.put(0, 0, 1), -13);
    }

    private static void lowestBits() {
        LastMender x = new LastMender();
        long[] values = {0, 1, -1, 127, 128, 255, 256, 32768, 65535, 65536, 1L << 31, 1L << 32, (1L << 32) - 1,
            Long.MAX_VALUE, Long.MIN_VALUE, -129, -32769, 0x123456789abcdefL};
        for (int sort = 0; sort < 5; sort++) {
            x.row(sort, sort, 2);
            for (long v : values) {
                DUE.is("32: put", x.put(sort, 1, v), 1);
                long due = sort == 0 ? (byte) v : sort == 1 ? (short) v : sort == 2 ? (int) v : sort == 3 ? v
                    : v != 0 ? 1 : 0;
                DUE.is("33: sort " + sort + " of " + v, x.element(sort, 1), due);
                DUE.is("33: its neighbour", x.element(sort, 0), 0);
            }
        }
    }

    private static void shift() {
        LastMender x = new LastMender();
        DUE.is("34: nothing", x.shift(0, 0, 1, 0, 0), -11);
        DUE.is("34: shift(6, ..)", x.shift(6, 0, 0, 0, 0), LastMender.BAD);
        DUE.is("34: shift(.., -1, ..)", x.shift(0, 0, -1, 0, 0), LastMender.BAD);
        Due.bytes(x, 0, 1, 2, 3, 4, 5);
        DUE.is("34: either", x.shift(0, 0, 1, 0, 0), -11);
        DUE.is("34: either", x.shift(1, 0, 0, 0, 0), -11);
        x.row(1, 1, 5);
        DUE.is("34: unlike sorts", x.shift(0, 0, 1, 0, 1), -12);
        DUE.is("34: unlike sorts ahead of places", x.shift(0, 9, 1, 0, 1), -12);
        x.body(0);
        x.keep(2, 0);
        DUE.is("34: a person", x.shift(2, 0, 0, 0, 1), -12);
        DUE.is("34: a person", x.shift(0, 0, 2, 0, 1), -12);
        DUE.is("34: nothing ahead of a person", x.shift(2, 0, 3, 0, 1), -11);
        x.keep(4, 0);
        DUE.is("34: two people", x.shift(2, 0, 4, 0, 0), -12);
        Due.bytes(x, 3, 9, 9, 9);
        int[][] places = {{-1, 0, 1}, {0, -1, 1}, {5, 0, 1}, {0, 3, 1}, {0, 0, 4}, {3, 0, 3}, {0, 0, -1},
            {Integer.MAX_VALUE, 0, 1}, {0, Integer.MAX_VALUE, 1}, {1, 1, Integer.MAX_VALUE},
            {0, 0, Integer.MIN_VALUE}, {6, 0, 0}, {0, 4, 0}};
        for (int[] p : places) DUE.is("34: places", x.shift(0, p[0], 3, p[1], p[2]), -13);
        DUE.is("34: none, at the ends", x.shift(0, 5, 3, 3, 0), 0);
        DUE.is("34: to another", x.shift(0, 3, 3, 1, 2), 2);
        elements(x, 3, 9, 4, 5);
        DUE.is("34: on", x.shift(0, 0, 0, 1, 4), 4);
        elements(x, 0, 1, 1, 2, 3, 4);
        DUE.is("34: back", x.shift(0, 1, 0, 0, 4), 4);
        elements(x, 0, 1, 2, 3, 4, 4);
    }

    private static void elements(LastMender x, int shelf, int... due) {
        for (int i = 0; i < due.length; i++) DUE.is("34: element " + i, x.element(shelf, i), due[i]);
    }

    private static void count() {
        LastMender x = new LastMender();
        x.person(1, 0);
        x.person(1, 0);
        x.thing(0, 0);
        x.thing(0, 0);
        x.thing(0, 0);
        x.feed(1);
        x.mend(0, 1, 3);
        x.body(0);
        x.body(7);
        x.act(1, 3, 1);
        x.years(1, 2);
        long[] due = {2, 3, 6, 0, 1, 1, 2, 14};
        for (int what = 0; what < 8; what++) DUE.is("36: count(" + what + ")", x.count(what), due[what]);
        DUE.is("36: count(-1)", x.count(-1), LastMender.BAD);
        DUE.is("36: count(8)", x.count(8), LastMender.BAD);
        x.feed(115);
        x.law();
        Due.law(x, "12");
        x.years(1, 1);
        x.years(1, 2);
        DUE.is("36: broken", x.count(3), 3);
        DUE.is("36: whole", x.count(2), 12);
    }
}
