/** Promises 1 to 7. */
public final class PeopleAndThingsTest {
    private static final Due DUE = new Due("PeopleAndThingsTest");

    public static void main(String[] args) {
        newObject();
        people();
        things();
        thingsFromRows();
        rule();
        mend();
        of();
        DUE.end();
    }

    private static void newObject() {
        LastMender x = new LastMender();
        for (int what = 0; what <= 7; what++) DUE.is("1: count(" + what + ")", x.count(what), 0);
        DUE.is("1: of(0, 0)", x.of(0, 0), LastMender.VOID);
        DUE.is("1: of(0, 10)", x.of(0, 10), LastMender.VOID);
        DUE.is("1: rule(0, 0)", x.rule(0, 0), 0);
        DUE.is("1: rule(1, 0)", x.rule(1, 0), 0);
        DUE.is("1: back()", x.back(), LastMender.STATE);
        DUE.is("1: undo()", x.undo(), LastMender.STATE);
        DUE.is("1: redo()", x.redo(), LastMender.STATE);
        for (int shelf = 0; shelf < 6; shelf++) DUE.is("1: put", x.put(shelf, 0, 1), -11);
    }

    private static void people() {
        LastMender x = new LastMender();
        DUE.is("2: person(0, 5)", x.person(0, 5), LastMender.BAD);
        DUE.is("2: person(4, 5)", x.person(4, 5), LastMender.BAD);
        DUE.is("2: person(2, -1)", x.person(2, -1), LastMender.BAD);
        DUE.is("2: person(2, 100)", x.person(2, 100), LastMender.BAD);
        DUE.is("2: count(0)", x.count(0), 0);
        for (int i = 0; i < 5; i++) DUE.is("2: person", x.person(1 + i % 3, i == 4 ? 99 : 0), i);
        DUE.is("2: a sixth", x.person(1, 0), LastMender.FULL);
        DUE.is("2: a bad sixth", x.person(4, 0), LastMender.BAD);
        DUE.is("2: skill", x.of(1, 0), 2);
        DUE.is("2: fee", x.of(4, 1), 99);
        for (int what = 2; what <= 5; what++) DUE.is("2: of(0, " + what + ")", x.of(0, what), 0);
        DUE.is("2: count(0)", x.count(0), 5);
    }

    private static void things() {
        LastMender x = new LastMender();
        DUE.is("3: nobody owns it", x.thing(0, 0), LastMender.BAD);
        x.person(1, 0);
        x.person(2, 0);
        DUE.is("3: thing(-1, 0)", x.thing(-1, 0), LastMender.BAD);
        DUE.is("3: thing(2, 0)", x.thing(2, 0), LastMender.BAD);
        DUE.is("3: thing(0, -1)", x.thing(0, -1), LastMender.BAD);
        for (int wb : new int[] {-50, -100, -101, 10000, 10099, 99999, Integer.MIN_VALUE, Integer.MAX_VALUE}) {
            DUE.is("3: thing(0, " + wb + ")", x.thing(0, wb), LastMender.BAD);
        }
        DUE.is("3: count(1)", x.count(1), 0);
        DUE.is("3: thing(1, 9907)", x.thing(1, 9907), 0);
        DUE.is("3: thing(0, 7)", x.thing(0, 7), 1);
        DUE.is("3: owner", x.of(0, 10), 1);
        DUE.is("3: worth", x.of(0, 11), 99);
        DUE.is("3: bill", x.of(0, 12), 7);
        DUE.is("3: worth", x.of(1, 11), 0);
        DUE.is("3: bill", x.of(1, 12), 7);
        DUE.is("3: state", x.of(1, 13), 3);
        DUE.is("3: next", x.of(1, 14), 1);
        DUE.is("3: last", x.of(1, 15), LastMender.NOT);
        DUE.is("3: before", x.of(1, 16), LastMender.NOT);
        DUE.is("3: age", x.of(1, 17), 0);
        DUE.is("3: layers", x.of(1, 18), 0);
        DUE.is("3: number", x.of(1, 19), 1);
        for (int i = 2; i < 6; i++) DUE.is("3: thing(0, 0)", x.thing(0, 0), i);
        DUE.is("3: a seventh", x.thing(0, 0), LastMender.FULL);
        DUE.is("3: a bad seventh", x.thing(2, 0), LastMender.BAD);
    }

    private static void thingsFromRows() {
        LastMender x = new LastMender();
        x.person(1, 0);
        x.person(2, 0);
        DUE.is("4: missing", x.things(0, 0, 1), 0);
        DUE.is("4: things(6, 0, 1)", x.things(6, 0, 1), LastMender.BAD);
        DUE.is("4: things(-1, 0, 1)", x.things(-1, 0, 1), LastMender.BAD);
        DUE.is("4: things(0, 0, 0)", x.things(0, 0, 0), LastMender.BAD);
        DUE.is("4: things(0, 0, 7)", x.things(0, 0, 7), LastMender.BAD);
        x.row(1, 1, 3);
        DUE.is("4: shorts", x.things(1, 0, 1), -12);
        x.body(0);
        x.keep(2, 0);
        DUE.is("4: a person", x.things(2, 0, 1), -12);
        thingsFromBelow(x);
        Due.bytes(x, 0, 9, 1, 20, 30, 0, 99, 0, 1);
        DUE.is("4: from 1, ends within a three", x.things(0, 1, 3), 2);
        DUE.is("4: owner", x.of(0, 10), 1);
        DUE.is("4: worth", x.of(0, 11), 20);
        DUE.is("4: bill", x.of(0, 12), 30);
        DUE.is("4: worth", x.of(1, 11), 99);
        DUE.is("4: no more than asked for", x.things(0, 1, 1), 1);
        DUE.is("4: behind the end", x.things(0, 8, 1), 0);
        DUE.is("4: far behind the end", x.things(0, Integer.MAX_VALUE, 6), 0);
        for (int[] one : new int[][] {{0, 100, 1}, {0, 1, -1}, {0, -1, 1}, {-1, 1, 1}, {0, 1, 127}}) {
            Due.bytes(x, 0, one);
            DUE.is("4: one that is not so", x.things(0, 0, 1), 0);
        }
        Due.bytes(x, 0, 0, 1, 1, 0, -1, 1, 0, 1, 1);
        DUE.is("4: one is not so", x.things(0, 0, 3), 1);
        Due.bytes(x, 0, 2, 1, 1);
        DUE.is("4: no such owner", x.things(0, 0, 1), 0);
        Due.bytes(x, 0, 0, 1, 100);
        DUE.is("4: too large a bill", x.things(0, 0, 1), 0);
        Due.bytes(x, 0, 1, 5, 6);
        DUE.is("4: up to the row's end", x.things(0, 0, 2), 1);
        DUE.is("4: worth", x.of(4, 11), 5);
        Due.bytes(x, 0, 0, 1, 1, 0, 2, 2, 0, 3, 3);
        DUE.is("4: until they are full", x.things(0, 0, 3), 1);
        DUE.is("4: full", x.things(0, 0, 3), 0);
        DUE.is("4: count(1)", x.count(1), 6);
    }

    /** A place below 0 is not BAD by itself: the shelf 0 holds nothing yet, 1 shorts, 2 a person. */
    private static void thingsFromBelow(LastMender x) {
        for (int i : new int[] {-1, -2, -3, -18, Integer.MIN_VALUE}) {
            DUE.is("4: missing, from " + i, x.things(0, i, 1), 0);
            DUE.is("4: shorts, from " + i, x.things(1, i, 1), -12);
            DUE.is("4: a person, from " + i, x.things(2, i, 6), -12);
            DUE.is("4: no such shelf, from " + i, x.things(6, i, 1), LastMender.BAD);
            DUE.is("4: none asked for, from " + i, x.things(0, i, 0), LastMender.BAD);
            Due.bytes(x, 0, 0, 1, 2, 0, 3, 4);
            DUE.is("4: a row, from " + i, x.things(0, i, 6), 0);
            x.keep(0, -1);
        }
        DUE.is("4: none came", x.count(1), 0);
    }

    private static void rule() {
        LastMender x = new LastMender();
        DUE.is("5: rule(0, 9)", x.rule(0, 9), 0);
        DUE.is("5: rule(0, 10)", x.rule(0, 10), LastMender.BAD);
        DUE.is("5: rule(0, -1)", x.rule(0, -1), LastMender.BAD);
        DUE.is("5: rule(0, 3)", x.rule(0, 3), 9);
        DUE.is("5: rule(1, 1)", x.rule(1, 1), 0);
        DUE.is("5: rule(1, 2)", x.rule(1, 2), LastMender.BAD);
        DUE.is("5: rule(1, 0)", x.rule(1, 0), 1);
        DUE.is("5: rule(2, 0)", x.rule(2, 0), LastMender.BAD);
        DUE.is("5: rule(-1, 0)", x.rule(-1, 0), LastMender.BAD);
        DUE.is("5: no change to undo", x.count(5), 0);
    }

    private static void mend() {
        LastMender x = new LastMender();
        x.person(1, 5);
        x.thing(0, 1234);
        int[][] most = {{1, 3}, {0, 99}, {0, 4}, {0, 99}, {0, 99}, {0, 5}};
        int[] at = {0, 1, 2, 11, 12, 14};
        int[] was = {1, 5, 0, 12, 34, 0};
        for (int what = 0; what <= 5; what++) {
            String call = "6: mend(0, " + what + ", ..)";
            DUE.is(call + " too little", x.mend(0, what, most[what][0] - 1), LastMender.BAD);
            DUE.is(call + " too much", x.mend(0, what, most[what][1] + 1), LastMender.BAD);
            DUE.is(call + " of none", x.mend(1, what, most[what][0]), LastMender.BAD);
            DUE.is(call + " of none", x.mend(-1, what, most[what][0]), LastMender.BAD);
            DUE.is(call + " most", x.mend(0, what, most[what][1]), was[what]);
            DUE.is(call + " is told", x.of(0, at[what]), most[what][1]);
            DUE.is(call + " least", x.mend(0, what, most[what][0]), most[what][1]);
            DUE.is(call + " is told", x.of(0, at[what]), most[what][0]);
        }
        DUE.is("6: mend(0, 6, 1)", x.mend(0, 6, 1), LastMender.BAD);
        DUE.is("6: mend(0, -1, 1)", x.mend(0, -1, 1), LastMender.BAD);
    }

    private static void of() {
        LastMender x = new LastMender();
        x.person(3, 7);
        x.person(1, 2);
        x.thing(1, 1020);
        x.mend(0, 2, 4);
        x.mend(0, 5, 4);
        x.fix(0);
        x.fix(1);
        long[] person = {3, 7, 4, -7, 0, 7};
        for (int what = 0; what <= 5; what++) DUE.is("7: of(0, " + what + ")", x.of(0, what), person[what]);
        long[] thing = {1, 10, 20, 3, 4, 1, 0, 0, 2, 1};
        for (int what = 10; what <= 19; what++) DUE.is("7: of(0, " + what + ")", x.of(0, what), thing[what - 10]);
        for (int what : new int[] {-1, 6, 7, 8, 9, 20, 100, Integer.MIN_VALUE}) {
            DUE.is("7: of(0, " + what + ")", x.of(0, what), LastMender.VOID);
        }
        DUE.is("7: of(2, 0)", x.of(2, 0), LastMender.VOID);
        DUE.is("7: of(-1, 0)", x.of(-1, 0), LastMender.VOID);
        DUE.is("7: of(1, 10)", x.of(1, 10), LastMender.VOID);
        DUE.is("7: of(-1, 19)", x.of(-1, 19), LastMender.VOID);
    }
}
