import java.io.IOException;
import java.util.Arrays;

/** Boundary cases of CHANGES undone and done again, of AN IMAGE, and of promises 23 to 26. */
public final class EdgesChangesTest extends Edges {
    public static void main(String[] args) throws IOException, IllegalAccessException {
        run(EdgesChangesTest.class);
    }

    private static LastMender two() {
        LastMender x = people(2, 5, 3, 8);
        x.thing(0, 1020);
        x.thing(1, 3040);
        return x;
    }

    /** What AN IMAGE keeps of two people and two things, WHOLE and BROKEN. */
    private static long[] kept(LastMender x) {
        long[] all = new long[40];
        int n = 0;
        for (int i = 0; i < 2; i++) {
            for (int what : new int[] {3, 4, 5, 13, 15, 16, 17, 18}) all[n++] = x.of(i, what);
            for (int at = 0; at < 8; at++) all[n++] = x.layer(i, at);
        }
        all[n++] = x.count(2);
        all[n++] = x.count(3);
        return all;
    }

    @Says("AN IMAGE is kept: how many THINGS.")
    static void howManyThings() {
        LastMender x = new LastMender();
        is("nobody, nothing", x.image(), 0);
        x.person(1, 0);
        is("no things", x.image(), 0);
        for (int t = 1; t <= 6; t++) {
            x.thing(0, 0);
            is("image()", x.image(), t);
        }
    }

    @Says("how many THINGS it knew. STATE: there is none.")
    static void noneKept() {
        LastMender x = new LastMender();
        is("none", x.back(), STATE);
        x.person(2, 5);
        x.thing(0, 0);
        x.fix(0);
        long[] before = all(x);
        is("none", x.back(), STATE);
        isAll("what is STATE", x, before);
        x = new LastMender();
        x.image();
        is("of nothing", x.back(), 0);
        x.person(2, 5);
        x.thing(0, 0);
        is("of nothing", x.back(), 0);
        x.image();
        x.thing(0, 0);
        is("of one", x.back(), 1);
        is("again", x.back(), 1);
    }

    @Says("AN IMAGE keeps STATE, LAST, BEFORE, AGE, LAYERS of THINGS, PURSES, what WHOLE, BROKEN, PAID tell.")
    static void whatItKeeps() {
        LastMender x = two();
        law(x, "t?12;0");
        x.fix(0);
        x.fix(1);
        x.fix(10);
        x.years(1, 4);
        x.fix(11);
        x.fix(10);
        long[] before = kept(x);
        is("image()", x.image(), 2);
        for (int round = 0; round < 2; round++) {
            for (int i = 0; i < 9; i++) x.fix(10 + i % 2);
            x.fix(1);
            law(x, "t?0;12");
            x.years(1, 5);
            long[] behind = kept(x);
            int same = 0;
            for (int i = 0; i < behind.length; i++) same += behind[i] == before[i] ? 1 : 0;
            is("much is another", same < 25);
            is("back()", x.back(), 2);
            is("as it was", Arrays.equals(kept(x), before));
        }
    }

    @Says({"THE TAPE becomes THE LAW", "AN IMAGE keeps STATE"})
    static void whatItKeepsNot() {
        LastMender x = two();
        law(x, "4");
        x.image();
        x.rule(0, 7);
        x.rule(1, 1);
        for (int what = 0; what < 6; what++) x.mend(0, what, 1);
        law(x, "9");
        x.feed('1');
        x.body(3);
        x.row(2, 0, 4);
        x.act(0, 1, 1);
        is("back()", x.back(), 2);
        int[] at = {0, 1, 2, 11, 12, 14};
        for (int what : at) is("what was told: " + what, x.of(0, what), 1);
        is("F", x.rule(0, 7), 7);
        is("HALF", x.rule(1, 1), 1);
        is("THE LAW", x.of(0, 19), 9);
        is("THE TAPE", x.count(4), 1);
        is("CHANGES", x.count(5), 6);
        is("BODIES", x.count(6), 1);
        is("THE TRACE", x.count(7), 4);
        is("a ROW", x.element(2, 3), 0);
    }

    @Says("(THINGS, PEOPLE that came since stay as they are)")
    static void cameSince() {
        LastMender x = people(2, 5);
        x.thing(0, 0);
        law(x, "t?12;0");
        x.image();
        x.person(3, 8);
        x.thing(1, 131);
        x.years(1, 2);
        x.fix(11);
        x.fix(10);
        x.fix(1);
        is("back()", x.back(), 1);
        is("still there", x.count(0), 2);
        is("still there", x.count(1), 2);
        is("STATE", x.of(1, 13), 3);
        is("LAST", x.of(1, 15), 0);
        is("BEFORE", x.of(1, 16), 1);
        is("LAYERS", x.of(1, 18), 2);
        is("PURSE", x.of(1, 3), 2 - 8 - 8);
        is("FEES", x.of(1, 5), 16);
        is("one it knew", x.of(0, 18), 0);
        is("one it knew", x.of(0, 5), 0);
        is("WHOLE", x.count(2), 0);
        x.years(1, 3);
        x.years(1, 1);
        is("back()", x.back(), 1);
        is("STATE", x.of(1, 13), 2);
        is("BILLS", x.of(0, 4), 0);
    }

    @Says("(THINGS, PEOPLE that came since stay as they are): how many THINGS it knew.")
    static void broughtBackTwice() {
        LastMender x = two();
        x.image();
        x.fix(0);
        x.image();
        x.fix(1);
        is("the latest alone", x.back(), 2);
        is("LAST", x.of(0, 15), 0);
        x.fix(1);
        is("again", x.back(), 2);
        is("LAST", x.of(0, 15), 0);
        is("LAYERS", x.of(0, 18), 1);
    }

    @Says("UNDONE: how many may still be. STATE: none.")
    static void noneToUndo() {
        LastMender x = new LastMender();
        is("none", x.undo(), STATE);
        x.person(2, 5);
        x.thing(0, 0);
        x.rule(0, 3);
        x.fix(0);
        x.years(1, 1);
        x.image();
        x.body(0);
        Due.law(x, "4");
        is("no such CHANGE", x.undo(), STATE);
        x.mend(0, 0, 3);
        x.mend(0, 0, 4);
        x.mend(0, 1, 6);
        is("undo()", x.undo(), 1);
        is("undo()", x.undo(), 0);
        long[] before = all(x);
        is("no more", x.undo(), STATE);
        isAll("what is STATE", x, before);
    }

    @Says("DONE AGAIN: how many may still be. STATE: none.")
    static void noneToRedo() {
        LastMender x = two();
        is("none", x.redo(), STATE);
        x.mend(0, 0, 3);
        x.mend(0, 1, 6);
        is("none UNDONE", x.redo(), STATE);
        x.undo();
        x.undo();
        is("redo()", x.redo(), 1);
        is("SKILL", x.of(0, 0), 3);
        is("FEE", x.of(0, 1), 5);
        is("redo()", x.redo(), 0);
        is("FEE", x.of(0, 1), 6);
        long[] before = all(x);
        is("no more", x.redo(), STATE);
        isAll("what is STATE", x, before);
    }

    @Says("CHANGES (FEE, SKILL, WAY of PEOPLE; WORTH, BILL, NEXT of THINGS")
    static void eachKind() {
        int[] at = {0, 1, 2, 11, 12, 14};
        for (int what = 0; what < 6; what++) {
            LastMender x = two();
            long was = x.of(1, at[what]);
            int v = what == 5 ? 0 : 2;
            x.mend(1, what, v);
            is("count(5)", x.count(5), 1);
            is("undo()", x.undo(), 0);
            is("of(1, " + at[what] + ")", x.of(1, at[what]), was);
            is("redo()", x.redo(), 0);
            is("of(1, " + at[what] + ")", x.of(1, at[what]), v);
            is("the other one", x.of(0, at[what]), two().of(0, at[what]));
        }
    }

    @Says("telling the same number is none")
    static void sameNumber() {
        LastMender x = two();
        int[] same = {2, 5, 0, 10, 20, 0};
        for (int what = 0; what < 6; what++) is("mend(0, " + what + ", ..)", x.mend(0, what, same[what]), same[what]);
        is("count(5)", x.count(5), 0);
        is("undo()", x.undo(), STATE);
        x.mend(0, 1, 6);
        x.undo();
        for (int what = 0; what < 6; what++) x.mend(0, what, same[what]);
        is("none came behind", x.redo(), 0);
        is("FEE", x.of(0, 1), 6);
    }

    @Says("can be UNDONE, the latest first")
    static void latestFirst() {
        LastMender x = two();
        for (int fee = 10; fee <= 13; fee++) {
            x.mend(0, 1, fee);
            x.mend(1, 4, fee);
        }
        for (int fee = 13; fee >= 10; fee--) {
            x.undo();
            is("BILL", x.of(1, 12), fee == 10 ? 40 : fee - 1);
            is("FEE", x.of(0, 1), fee);
            x.undo();
            is("FEE", x.of(0, 1), fee == 10 ? 5 : fee - 1);
        }
    }

    @Says("(as long as no other came behind)")
    static void anotherCame() {
        LastMender x = two();
        for (int fee = 10; fee <= 13; fee++) x.mend(0, 1, fee);
        x.undo();
        x.undo();
        x.mend(0, 1, 100);
        is("what is BAD did not come", x.redo(), 1);
        x.fix(0);
        x.rule(0, 3);
        is("these are no CHANGES", x.redo(), 0);
        x.undo();
        x.undo();
        x.mend(1, 1, 50);
        is("another came", x.redo(), STATE);
        is("count(5)", x.count(5), 3);
        is("undo()", x.undo(), 2);
        is("FEE", x.of(1, 1), 8);
        is("undo()", x.undo(), 1);
        is("FEE", x.of(0, 1), 10);
        is("redo()", x.redo(), 1);
        is("redo()", x.redo(), 0);
        is("FEE", x.of(1, 1), 50);
        is("redo()", x.redo(), STATE);
    }

    @Says("40 at most are kept")
    static void fortyKept() {
        for (int n : new int[] {39, 40, 41, 80, 95}) {
            LastMender x = people(1, 99);
            for (int i = 0; i < n; i++) is("mend(0, 1, ..)", x.mend(0, 1, i), i == 0 ? 99 : i - 1);
            int kept = Math.min(40, n);
            is("count(5) behind " + n, x.count(5), kept);
            for (int i = 1; i <= kept; i++) is("undo()", x.undo(), kept - i);
            is("no more", x.undo(), STATE);
            is("FEE", x.of(0, 1), n <= 40 ? 99 : n - 41);
            for (int i = 1; i <= kept; i++) is("redo()", x.redo(), kept - i);
            is("no more", x.redo(), STATE);
            is("FEE", x.of(0, 1), n - 1);
            is("count(5)", x.count(5), kept);
        }
    }

    @Says("can be UNDONE, the latest first, and DONE AGAIN (as long as no other came behind); 40 at most are kept.")
    static void fortyOfAllKinds() {
        int[] at = {0, 1, 2, 11, 12, 14}, most = {3, 99, 4, 99, 99, 5};
        LastMender x = people(1, 0, 1, 0, 1, 0, 1, 0, 1, 0);
        for (int t = 0; t < 5; t++) x.thing(0, 0);
        int[][] all = new int[57][];
        for (int i = 0; i < 57; i++) {
            int what = i * i % 6, number = i * (i + 1) / 2 % 5;
            int v = x.of(number, at[what]) == most[what] ? 1 : most[what] - (what == 1 ? i : 0);
            all[i] = new int[] {number, what, x.mend(number, what, v), v};
            is("another number", all[i][2] != v);
        }
        for (int i = 56; i >= 17; i--) {
            is("undo()", x.undo(), i - 17);
            is("what it was", x.of(all[i][0], at[all[i][1]]), all[i][2]);
        }
        is("no more", x.undo(), STATE);
        for (int i = 17; i < 57; i++) {
            is("redo()", x.redo(), 56 - i);
            is("what it became", x.of(all[i][0], at[all[i][1]]), all[i][3]);
        }
        is("no more", x.redo(), STATE);
    }

    @Says({"40 at most are kept", "as long as no other came behind"})
    static void fortyWithUndone() {
        LastMender x = people(1, 0);
        for (int i = 1; i <= 40; i++) x.mend(0, 1, i);
        for (int i = 0; i < 10; i++) x.undo();
        x.mend(0, 1, 99);
        is("count(5)", x.count(5), 31);
        is("redo()", x.redo(), STATE);
        for (int i = 1; i <= 9; i++) x.mend(0, 1, i);
        is("count(5)", x.count(5), 40);
        x.mend(0, 1, 10);
        is("count(5)", x.count(5), 40);
        for (int i = 39; i >= 0; i--) is("undo()", x.undo(), i);
        is("FEE", x.of(0, 1), 1);
    }
}
