/** Promises 16 to 22. */
public final class ThoughtTest {
    private static final Due DUE = new Due("ThoughtTest");

    public static void main(String[] args) {
        worth();
        worthBest();
        wrongCalls();
        now();
        smith();
        gift();
        debts();
        ruled();
        ruined();
        DUE.end();
    }

    private static void worth() {
        LastMender x = new LastMender();
        x.person(1, 0);
        x.thing(0, 1099);
        DUE.isFraction("16: no years", x.worth(0, 0, 0), x.worth(0, 0, 1), 0, 1);
        DUE.isFraction("16: one", x.worth(1, 0, 0), x.worth(1, 0, 1), 10, 1);
        DUE.isFraction("16: two", x.worth(2, 0, 0), x.worth(2, 0, 1), 20, 1);
        // It breaks in the third year by 1/12, 3/12, 5/12: 30 less 15/1728 of what it has and costs.
        DUE.isFraction("16: three", x.worth(3, 0, 0), x.worth(3, 0, 1), 16735, 576);
        x = new LastMender();
        x.person(1, 7);
        x.person(2, 9);
        x.thing(0, 40);
        Due.law(x, "12");
        x.years(1, 2);
        DUE.isFraction("16: it breaks", x.worth(1, 0, 0), x.worth(1, 0, 1), -40, 1);
        x.mend(0, 2, 1);
        DUE.isFraction("16: mended and breaks", x.worth(1, 0, 0), x.worth(1, 0, 1), -47, 1);
        x.mend(0, 2, 0);
        Due.law(x, "s=1?6");
        DUE.isFraction("16: lowest terms", x.worth(1, 0, 0), x.worth(1, 0, 1), -20, 1);
        Due.law(x, "s=1?7");
        DUE.isFraction("16: sign above", x.worth(1, 0, 0), x.worth(1, 0, 1), -70, 3);
        x.fix(1);
        Due.law(x, "12");
        x.years(1, 1);
        DUE.isFraction("16: another one pays", x.worth(1, 0, 0), x.worth(1, 0, 1), 0, 1);
        x.rule(0, 1);
        DUE.isFraction("16: forgotten", x.worth(1, 0, 0), x.worth(1, 0, 1), -40, 1);
        x.rule(0, 2);
        DUE.isFraction("16: not forgotten yet", x.worth(1, 0, 0), x.worth(1, 0, 1), 0, 1);
        x.thing(0, 0);
        x.mend(0, 5, 1);
        x.rule(1, 1);
        x.fix(0);
        DUE.isFraction("16: BEFORE and HALF left aside", x.worth(3, 0, 0), x.worth(3, 0, 1), -40, 1);
    }

    private static void worthBest() {
        LastMender x = new LastMender();
        x.person(3, 10);
        x.thing(0, 1090);
        Due.law(x, "12");
        // Three years: left alone it breaks in the third: 20 - 90; mended in the second or third: 30 - 10.
        DUE.isFraction("16: BEST", x.worth(3, 1, 0), x.worth(3, 1, 1), 20, 1);
        x.mend(0, 2, 4);
        DUE.isFraction("16: WAY 4", x.worth(3, 0, 0), x.worth(3, 0, 1), 20, 1);
        x.mend(0, 2, 0);
        DUE.isFraction("16: LEAVE", x.worth(3, 0, 0), x.worth(3, 0, 1), -70, 1);
        x.mend(0, 2, 3);
        DUE.isFraction("16: always", x.worth(3, 0, 0), x.worth(3, 0, 1), 0, 1);
    }

    private static void wrongCalls() {
        LastMender x = new LastMender();
        x.person(1, 0);
        x.person(1, 0);
        x.thing(0, 1099);
        long none = Long.MIN_VALUE;
        for (int ty : new int[] {-1, -10, 7, 8, 9, 10, 16, 60, Integer.MIN_VALUE, Integer.MAX_VALUE}) {
            DUE.is("16: worth(" + ty + ", 0, 0)", x.worth(ty, 0, 0), none);
            DUE.is("17: now(" + ty + ", 0)", x.now(ty, 0), LastMender.BAD);
            DUE.is("17: now(" + ty + ", 2)", x.now(ty, 2), LastMender.BAD);
            DUE.is("18: smith(" + ty + ", 1, 0, 0)", x.smith(ty, 1, 0, 0), none);
            DUE.is("19: gift(" + ty + ", 1, 0)", x.gift(ty, 1, 0), none);
        }
        for (int py : new int[] {-1, 7, 9, 17, 20, 26, Integer.MIN_VALUE, Integer.MAX_VALUE}) {
            DUE.is("20: debts(" + py + ", 0)", x.debts(py, 0), none);
        }
        for (int v : new int[] {-1, 2}) {
            DUE.is("16: worth(1, " + v + ", 0)", x.worth(1, v, 0), none);
            DUE.is("16: worth(1, 0, " + v + ")", x.worth(1, 0, v), none);
            DUE.is("18: smith(1, 1, " + v + ", 0)", x.smith(1, 1, v, 0), none);
            DUE.is("18: smith(1, 1, 0, " + v + ")", x.smith(1, 1, 0, v), none);
            DUE.is("18: smith(1, " + v + ", 0, 0)", x.smith(1, v, 0, 0), none);
            DUE.is("19: gift(1, 1, " + v + ")", x.gift(1, 1, v), none);
            DUE.is("19: gift(1, " + v + ", 0)", x.gift(1, v, 0), none);
            DUE.is("20: debts(1, " + v + ")", x.debts(1, v), none);
        }
        DUE.is("17: now(1, -1)", x.now(1, -1), LastMender.BAD);
        DUE.is("17: now(1, 3)", x.now(1, 3), LastMender.BAD);
        DUE.is("18: p is o", x.smith(1, 0, 0, 0), none);
        DUE.is("19: q is o", x.gift(1, 0, 0), none);
    }

    private static void now() {
        LastMender x = new LastMender();
        x.person(3, 10);
        x.thing(0, 1090);
        Due.law(x, "12");
        DUE.is("17: no years", x.now(0, 1), 0);
        DUE.is("17: one year", x.now(1, 1), 1);
        DUE.is("17: at once", x.now(1, 0), 0);
        x.years(1, 2);
        DUE.is("17: at once", x.now(1, 0), 1);
        DUE.is("17: no years", x.now(0, 0), 0);
        DUE.is("17: SKILL 1 breaks too", x.now(1, 2), 2);
        // Of like ones not: what it has and its BILL are just the FEE.
        x.mend(0, 1, 100 - 1);
        x.mend(0, 4, 89);
        DUE.is("17: of like ones not", x.now(1, 0), 0);
        DUE.is("17: no SKILL", x.now(1, 2), LastMender.NOT);
        x.mend(0, 4, 90);
        DUE.is("17: more", x.now(1, 0), 1);
        DUE.is("17: what BEST is does not hang on the WAY", x.of(0, 2), 0);
    }

    private static void smith() {
        LastMender x = new LastMender();
        x.person(1, 50);
        x.person(3, 8);
        x.thing(0, 1040);
        Due.law(x, "12");
        x.years(1, 2);
        DUE.isFraction("18: no years", x.smith(0, 1, 0, 0), x.smith(0, 1, 0, 1), 0, 1);
        DUE.isFraction("18: it breaks not", x.smith(1, 1, 0, 0), x.smith(1, 1, 0, 1), 50, 1);
        DUE.isFraction("18: no risk in two", x.smith(2, 1, 1, 0), x.smith(2, 1, 1, 1), 0, 1);
        DUE.isFraction("18: risk in three", x.smith(3, 1, 1, 0), x.smith(3, 1, 1, 1), 40, 1);
        DUE.isFraction("18: the first time alone", x.smith(6, 1, 1, 0), x.smith(6, 1, 1, 1), 40, 1);
        x.rule(0, 2);
        DUE.isFraction("18: forgotten", x.smith(6, 1, 1, 0), x.smith(6, 1, 1, 1), 0, 1);
        x.rule(0, 3);
        DUE.isFraction("18: not yet forgotten", x.smith(6, 1, 1, 0), x.smith(6, 1, 1, 1), 40, 1);
        Due.law(x, "s=1?6;3");
        DUE.isFraction("18: as a mean", x.smith(3, 1, 1, 0), x.smith(3, 1, 1, 1), 5, 4);
        x.mend(1, 0, 1);
        DUE.isFraction("18: badly mended, in one", x.smith(1, 1, 1, 0), x.smith(1, 1, 1, 1), 20, 1);
        DUE.isFraction("18: what o need not pay", x.smith(1, 1, 0, 0), x.smith(1, 1, 0, 1), 20, 1);
    }

    private static void gift() {
        LastMender x = new LastMender();
        x.person(3, 50);
        x.person(3, 8);
        x.person(1, 0);
        x.thing(0, 1040);
        Due.law(x, "12");
        x.years(1, 2);
        DUE.isFraction("19: no years", x.gift(0, 1, 0), x.gift(0, 1, 1), 0, 1);
        DUE.isFraction("19: by q's FEE", x.gift(1, 1, 0), x.gift(1, 1, 1), 2, 1);
        DUE.isFraction("19: by q's SKILL", x.gift(1, 2, 0), x.gift(1, 2, 1), -40, 1);
        x.mend(1, 0, 1);
        x.mend(1, 1, 99);
        x.fix(1);
        DUE.isFraction("19: q is last", x.gift(1, 1, 0), x.gift(1, 1, 1), -40, 1);
        DUE.isFraction("19: another one is", x.gift(1, 2, 0), x.gift(1, 2, 1), 0, 1);
        DUE.is("19: nothing is given", x.of(0, 10), 0);
    }

    private static void debts() {
        LastMender x = new LastMender();
        x.person(1, 0);
        x.person(1, 0);
        x.thing(0, 10);
        x.thing(1, 20);
        x.thing(1, 40);
        Due.law(x, "12");
        x.years(1, 2);
        DUE.isFraction("20: none", x.debts(6, 0), x.debts(6, 1), 0, 1);
        x.fix(0);
        x.fix(10);
        x.fix(21);
        DUE.isFraction("20: no years", x.debts(0, 0), x.debts(0, 1), 0, 1);
        DUE.isFraction("20: together", x.debts(6, 0), x.debts(6, 1), 30, 1);
        DUE.isFraction("20: of the other", x.debts(16, 0), x.debts(16, 1), 40, 1);
        Due.law(x, "t?3;1");
        DUE.isFraction("20: means", x.debts(1, 0), x.debts(1, 1), 35, 6);
        x.rule(0, 1);
        DUE.isFraction("20: forgotten behind one", x.debts(6, 0), x.debts(6, 1), 35, 6);
    }

    private static void ruled() {
        LastMender x = new LastMender();
        DUE.is("21: ruled(0, 0, 0)", x.ruled(0, 0, 0), LastMender.BAD);
        DUE.is("21: ruled(0, 21, 0)", x.ruled(0, 21, 0), LastMender.BAD);
        DUE.is("21: ruled(0, 1, 2)", x.ruled(0, 1, 2), LastMender.BAD);
        DUE.is("21: ruled(0, 1, -1)", x.ruled(0, 1, -1), LastMender.BAD);
        DUE.is("21: nothing", x.ruled(0, 20, 1), 0);
        // Another one mended it: as long as that one pays, its owner lets it break.
        x.person(3, 20);
        x.person(1, 0);
        x.mend(0, 2, 4);
        x.thing(0, 50);
        Due.law(x, "12*(a<3)");
        x.fix(1);
        int least = 0, fewest = 1000;
        for (int f = 0; f <= 9; f++) {
            x.rule(0, f);
            x.image();
            int broke = x.years(5, 3);
            if (broke < fewest) {
                fewest = broke;
                least = f;
            }
            x.back();
        }
        x.rule(0, 7);
        DUE.is("21: F", x.ruled(5, 3, 0), least);
        DUE.is("21: how many", x.ruled(5, 3, 1), fewest);
        DUE.is("21: not the first", least > 0 ? 1 : 0, 1);
        DUE.is("21: F is as it was", x.rule(0, 0), 7);
        DUE.is("21: in thought", x.of(0, 17), 0);
        DUE.is("21: in thought", x.count(2), 0);
        ruledByTheMost();
    }

    /** Mended at once where its mender is forgotten, and worn all the sooner: only 9 leaves it be. */
    private static void ruledByTheMost() {
        LastMender x = new LastMender();
        x.person(1, 9);
        x.person(3, 0);
        x.mend(0, 2, 4);
        x.thing(0, 1935);
        Due.law(x, "a%3*4");
        x.fix(1);
        for (int f = 0; f <= 9; f++) {
            x.rule(0, f);
            x.image();
            DUE.is("21: by " + f + " none breaks", x.years(60, 20) == 0 ? 1 : 0, f == 9 ? 1 : 0);
            x.back();
        }
        DUE.is("21: F", x.ruled(60, 20, 0), 9);
        DUE.is("21: how many", x.ruled(60, 20, 1), 0);
    }

    private static void ruined() {
        LastMender x = new LastMender();
        DUE.is("22: nobody", x.ruined(1, 0, 0), LastMender.NOT);
        DUE.is("22: ruined(1, 1, 0)", x.ruined(1, 1, 0), LastMender.BAD);
        DUE.is("22: ruined(1, -1000, 0)", x.ruined(1, -1000, 0), LastMender.BAD);
        DUE.is("22: ruined(1, 0, 2)", x.ruined(1, 0, 2), LastMender.BAD);
        DUE.is("22: ruined(1, 0, -1)", x.ruined(1, 0, -1), LastMender.BAD);
        for (int i = 0; i < 3; i++) x.person(1, 0);
        x.thing(2, 80);
        x.thing(1, 80);
        DUE.is("22: no one below 0", x.ruined(1, -999, 0), LastMender.NOT);
        Due.law(x, "12");
        DUE.is("22: the third year", x.ruined(1, 0, 0), 3);
        DUE.is("22: who", x.ruined(1, 0, 1), 1);
        DUE.is("22: below, not just at", x.ruined(1, -80, 0), 6);
        DUE.is("22: just below", x.ruined(1, -79, 0), 3);
        DUE.is("22: the thirtieth year", x.ruined(1, -799, 0), 30);
        DUE.is("22: none in thirty", x.ruined(1, -800, 0), LastMender.NOT);
        DUE.is("22: none in thirty", x.ruined(1, -800, 1), LastMender.NOT);
        DUE.is("22: in thought", x.of(1, 3), 0);
        x.mend(0, 1, 9);
        x.fix(0);
        DUE.is("22: below from the first", x.ruined(1, -8, 0), 1);
        DUE.is("22: who", x.ruined(1, -8, 1), 0);
    }
}
