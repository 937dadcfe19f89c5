/** Promises 23 to 26. */
public final class ImageAndChangesTest {
    private static final Due DUE = new Due("ImageAndChangesTest");

    public static void main(String[] args) {
        image();
        whatCameSince();
        undoAndRedo();
        fortyAtMost();
        DUE.end();
    }

    private static long[] all(LastMender x) {
        long[] all = new long[100];
        int n = 0;
        for (int p = 0; p < x.count(0); p++) {
            for (int what = 3; what <= 5; what++) all[n++] = x.of(p, what);
        }
        for (int t = 0; t < x.count(1); t++) {
            for (int what : new int[] {13, 15, 16, 17, 18}) all[n++] = x.of(t, what);
            for (int i = 0; i < 8; i++) all[n++] = x.layer(t, i);
        }
        all[n++] = x.count(2);
        all[n++] = x.count(3);
        return all;
    }

    private static void image() {
        LastMender x = new LastMender();
        DUE.is("24: none", x.back(), LastMender.STATE);
        x.person(2, 5);
        x.person(3, 8);
        x.mend(0, 2, 1);
        x.thing(0, 1020);
        x.thing(1, 3040);
        Due.law(x, "4*s");
        x.fix(0);
        x.fix(1);
        x.years(3, 9);
        x.fix(10);
        long[] before = all(x);
        DUE.is("23: image()", x.image(), 2);
        for (int round = 0; round < 2; round++) {
            x.years(4, 20);
            x.fix(0);
            x.fix(11);
            int paid = x.paid(0);
            x.mend(1, 3, 31 + round);
            x.rule(0, 3 + round);
            DUE.is("24: back()", x.back(), 2);
            long[] behind = all(x);
            for (int i = 0; i < before.length; i++) DUE.is("24: value " + i, behind[i], before[i]);
            DUE.is("24: who paid stays", x.paid(0), paid);
            DUE.is("24: what is told stays", x.of(1, 11), 31 + round);
            DUE.is("24: the rule stays", x.rule(0, 3 + round), 3 + round);
        }
        x.fix(0);
        DUE.is("23: a later one", x.image(), 2);
        long[] later = all(x);
        x.years(4, 20);
        x.back();
        long[] behind = all(x);
        for (int i = 0; i < later.length; i++) DUE.is("24: value " + i, behind[i], later[i]);
    }

    private static void whatCameSince() {
        LastMender x = new LastMender();
        DUE.is("23: of nothing", x.image(), 0);
        DUE.is("24: of nothing", x.back(), 0);
        x.person(2, 5);
        x.thing(0, 0);
        x.image();
        x.person(3, 8);
        x.thing(1, 100);
        x.fix(1);
        x.fix(11);
        DUE.is("24: back()", x.back(), 1);
        DUE.is("24: known", x.of(0, 15), LastMender.NOT);
        DUE.is("24: known", x.of(0, 18), 0);
        DUE.is("24: came since", x.of(1, 15), 1);
        DUE.is("24: came since", x.layer(1, 0), 1);
        DUE.is("24: came since", x.of(1, 3), -16);
        DUE.is("24: came since", x.of(1, 5), 16);
        DUE.is("24: still there", x.count(1), 2);
    }

    private static void undoAndRedo() {
        LastMender x = new LastMender();
        DUE.is("25: none", x.undo(), LastMender.STATE);
        DUE.is("26: none", x.redo(), LastMender.STATE);
        x.person(2, 5);
        x.thing(0, 1020);
        x.mend(0, 0, 2);
        x.mend(0, 1, 100);
        DUE.is("25: the same number is none", x.undo(), LastMender.STATE);
        int[] at = {0, 1, 2, 11, 12, 14};
        int[] was = {2, 5, 0, 10, 20, 0}, becomes = {3, 6, 4, 11, 21, 5};
        for (int what = 0; what <= 5; what++) x.mend(0, what, becomes[what]);
        DUE.is("36: count(5)", x.count(5), 6);
        for (int what = 5; what >= 0; what--) {
            DUE.is("25: undo()", x.undo(), what);
            DUE.is("25: of(0, " + at[what] + ")", x.of(0, at[what]), was[what]);
            DUE.is("36: count(5)", x.count(5), what);
        }
        DUE.is("25: no more", x.undo(), LastMender.STATE);
        for (int what = 0; what <= 5; what++) {
            DUE.is("26: redo()", x.redo(), 5 - what);
            DUE.is("26: of(0, " + at[what] + ")", x.of(0, at[what]), becomes[what]);
        }
        DUE.is("26: no more", x.redo(), LastMender.STATE);
        x.undo();
        x.undo();
        x.mend(0, 0, 3);
        DUE.is("26: the same number is none", x.redo(), 1);
        x.mend(0, 0, 1);
        DUE.is("26: another came behind", x.redo(), LastMender.STATE);
        DUE.is("25: undo()", x.undo(), 5);
        DUE.is("25: skill", x.of(0, 0), 3);
        DUE.is("25: undo()", x.undo(), 4);
        DUE.is("25: bill", x.of(0, 12), 20);
    }

    private static void fortyAtMost() {
        LastMender x = new LastMender();
        x.person(1, 0);
        for (int i = 1; i <= 43; i++) x.mend(0, 1, i);
        DUE.is("25: 40 at most", x.count(5), 40);
        for (int i = 39; i >= 0; i--) DUE.is("25: undo()", x.undo(), i);
        DUE.is("25: no more", x.undo(), LastMender.STATE);
        DUE.is("25: fee", x.of(0, 1), 3);
        for (int i = 39; i >= 0; i--) DUE.is("26: redo()", x.redo(), i);
        DUE.is("26: fee", x.of(0, 1), 43);
        kindsInTurn();
    }

    /** Each change is kept whole as the oldest are forgotten. */
    private static void kindsInTurn() {
        LastMender x = new LastMender();
        for (int i = 0; i < 5; i++) {
            x.person(1, 0);
            x.thing(i, 0);
        }
        int[][] all = new int[60][];
        int[] at = {1, 11, 12};
        for (int i = 0; i < 60; i++) {
            int what = i % 3 == 0 ? 1 : 2 + i % 3, number = i * 7 % 5;
            int v = i % 90 + 1;
            all[i] = new int[] {number, at[i % 3], x.mend(number, what, v), v};
        }
        for (int i = 59; i >= 20; i--) {
            DUE.is("25: undo()", x.undo(), i - 20);
            DUE.is("25: what it was", x.of(all[i][0], all[i][1]), all[i][2]);
        }
        for (int i = 20; i < 60; i++) {
            DUE.is("26: redo()", x.redo(), 59 - i);
            DUE.is("26: what it became", x.of(all[i][0], all[i][1]), all[i][3]);
        }
    }
}
