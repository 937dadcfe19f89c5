import java.io.IOException;

/** Boundary cases of what is thought of one THING and of all, and of promises 16 to 22. */
public final class EdgesThoughtTest extends Edges {
    private static final int[] BAD_TY = {LEAST, -10, -6, -1, 7, 8, 9, 17, 20, 26, 60, 66, MOST};

    public static void main(String[] args) throws IOException, IllegalAccessException {
        run(EdgesThoughtTest.class);
    }

    /** An owner, another one, a third; a THING of a STATE; THE LAW then. */
    private static LastMender one(int skill, int fee, int worth, int bill, int state, String text) {
        LastMender x = people(skill, fee, 3, 8, 1, 2);
        x.thing(0, 100 * worth + bill);
        wear(x, 0, state);
        law(x, text);
        return x;
    }

    private static void worthIs(String call, LastMender x, int y, int what, long above, long below) {
        isFraction(call + ": worth(" + y + ", " + what + ", ..)", x.worth(y, what, 0), x.worth(y, what, 1), above, below);
    }

    private static void smithIs(String call, LastMender x, int y, int p, int what, long above) {
        isFraction(call, x.smith(y, p, what, 0), x.smith(y, p, what, 1), above, 1);
    }

    private static void giftIs(String call, LastMender x, int y, int q, long above) {
        isFraction(call, x.gift(y, q, 0), x.gift(y, q, 1), above, 1);
    }

    private static void debtsAre(String call, LastMender x, int py, long above) {
        isFraction(call, x.debts(py, 0), x.debts(py, 1), above, 1);
    }

    @Says("(ty: 10 times the THING and y, 0 .. 6; part 0 above, 1 below the line; Long.MIN_VALUE: BAD)")
    static void badThoughts() {
        LastMender x = people(1, 0, 1, 0);
        x.thing(0, 1099);
        x.thing(1, 1099);
        x.fix(0);
        long[] before = all(x);
        for (int ty : BAD_TY) {
            for (int part = 0; part <= 1; part++) {
                is("worth(" + ty + ", ..)", x.worth(ty, part, 1 - part), NO_LONG);
                is("smith(" + ty + ", ..)", x.smith(ty, 1, part, part), NO_LONG);
                is("gift(" + ty + ", ..)", x.gift(ty, 1, part), NO_LONG);
                is("debts(" + ty + ", ..)", x.debts(ty, part), NO_LONG);
            }
        }
        for (int v : new int[] {LEAST, -1, 2, MOST}) {
            is("worth(1, 0, " + v + ")", x.worth(1, 0, v), NO_LONG);
            is("smith(1, 1, 0, " + v + ")", x.smith(1, 1, 0, v), NO_LONG);
            is("smith(1, 1, 1, " + v + ")", x.smith(1, 1, 1, v), NO_LONG);
            is("gift(1, 1, " + v + ")", x.gift(1, 1, v), NO_LONG);
            is("debts(1, " + v + ")", x.debts(1, v), NO_LONG);
        }
        isAll("what is BAD", x, before);
        for (int ty : new int[] {0, 6, 10, 16}) is("worth(" + ty + ", 0, 1)", x.worth(ty, 0, 1) > 0);
    }

    @Says({"ty: 10 times the THING and y, 0 .. 6", "py: 10 times the PERSON and y"})
    static void thingAndYears() {
        LastMender x = people(1, 0, 1, 0, 1, 0, 1, 0, 1, 0);
        for (int t = 0; t < 6; t++) {
            x.thing(0, 100 * t + 7 * (t + 1));
            x.fix(10 * t + Math.min(t, 4));
        }
        law(x, "0");
        for (int ty = -20; ty < 80; ty++) {
            boolean years = ty >= 0 && ty % 10 <= 6;
            is("worth(" + ty + ", 0, 0)", x.worth(ty, 0, 0), years && ty / 10 < 6 ? ty / 10 * (ty % 10) : NO_LONG);
            is("debts(" + ty + ", 1)", x.debts(ty, 1), years && ty / 10 < 5 ? 1 : NO_LONG);
            is("now(" + ty + ", 1)", x.now(ty, 1), years && ty / 10 < 6 ? 0 : BAD);
            is("gift(" + ty + ", 4, 0)", x.gift(ty, 4, 0), years && ty / 10 < 6 ? ty / 10 * (ty % 10) : NO_LONG);
        }
    }

    @Says("WORTH TO its OWNER (what 0), BEST (1).")
    static void badWorths() {
        LastMender x = one(1, 0, 10, 20, 1, "12");
        for (int what : new int[] {LEAST, -1, 2, MOST}) {
            is("worth(1, " + what + ", 0)", x.worth(1, what, 0), NO_LONG);
            is("worth(1, " + what + ", 1)", x.worth(1, what, 1), NO_LONG);
        }
        worthIs("as it is", x, 1, 0, -20, 1);
        worthIs("as it is", x, 1, 1, -20, 1);
        is("none is there", new LastMender().worth(0, 0, 0), NO_LONG);
    }

    @Says("y YEARS (0 .. 6) from how it is")
    static void noneToSixYears() {
        LastMender x = one(1, 0, 10, 20, 2, "12");
        long[] due = {0, 10, -10, 0, 10, -10, 0};
        for (int y = 0; y <= 6; y++) {
            worthIs("in " + y, x, y, 0, due[y], 1);
            is("SMITH's RISK in " + y, x.smith(y, 2, 1, 0), y < 2 ? 0 : 20);
            is("GIFT in " + y, x.gift(y, 2, 0), y == 0 ? 0 : y == 1 ? 10 : x.gift(y, 2, 0));
        }
        x.fix(2);
        for (int y = 0; y <= 6; y++) debtsAre("DEBTS in " + y, x, 20 + y, y < 2 ? 0 : 20);
        for (int y = 7; y <= 9; y++) is("in " + y, x.worth(y, 0, 0), NO_LONG);
        is("y of a THING alone", x.now(0, 0), 0);
    }

    /** A THING of STATE 3, mended by one of three, of an AGE; mending costs more than it brings. */
    private static LastMender aged(int mender, int age, String text) {
        LastMender x = people(1, 99, 1, 99, 1, 99);
        x.thing(0, 1040);
        law(x, "0");
        x.fix(mender);
        for (int i = 0; i < 3; i++) x.years(1, 30);
        x.years(1, age - 90);
        is("AGE", x.of(0, 17), age);
        law(x, text);
        return x;
    }

    @Says({"AGE is 1 more (99 at most).", "y YEARS (0 .. 6) from how it is"})
    static void oldestInThought() {
        for (int age = 96; age <= 99; age++) {
            LastMender own = aged(0, age, "a=99?12;0"), others = aged(2, age, "a=99?12;0"), never = aged(2, age, "a>99?12;0");
            int breaks = 99 - age + 3;
            for (int y = 0; y <= 6; y++) {
                int less = y < breaks ? 0 : 10, bill = y < breaks ? 0 : 40;
                for (int what = 0; what <= 1; what++) {
                    worthIs("AGE " + age + ", LAST itself", own, y, what, 10 * y - less - bill, 1);
                    worthIs("AGE " + age + ", LAST another one", others, y, what, 10 * y - less, 1);
                    worthIs("no AGE above 99", never, y, what, 10 * y, 1);
                }
                giftIs("GIFT, AGE " + age, others, y, 1, 10 * y - less);
                smithIs("SMITH, AGE " + age, own, y, 1, 0, less + bill);
                debtsAre("DEBTS, AGE " + age, own, y, bill);
                debtsAre("DEBTS, AGE " + age, others, 20 + y, bill);
                debtsAre("no AGE above 99", never, 20 + y, 0);
                if (y > 0) is("RULED, AGE " + age, own.ruled(1, y, 1), y < breaks ? 0 : 1);
            }
            is("RUINED, AGE " + age, own.ruined(1, 0, 0) > 0, own.of(0, 3) < 0);
        }
    }

    @Says({"STATES (bits 1, 2, 4 for 1, 2, 3)", "AGE is 1 more (99 at most)."})
    static void oldestOfEachState() {
        for (int skill = 1; skill <= 3; skill++) {
            for (int age = 98; age <= 99; age++) {
                LastMender x = aged(0, age, "a=0?0;12");
                x.mend(0, 0, skill);
                x.mend(0, 1, 1);
                // A STATE above 1 can as well be mended as it has come down to 1.
                for (int y = 0; y <= 6; y++) is("AGE " + age + ", " + y + " YEARS", x.now(y, 1), y == 0 ? 0 : 1);
            }
        }
    }

    @Says("(a BILL that another one pays costs it nothing)")
    static void anotherPays() {
        LastMender x = one(1, 0, 10, 40, 1, "12");
        worthIs("nobody is LAST", x, 1, 0, -40, 1);
        x.fix(2);
        worthIs("another one is", x, 1, 0, 0, 1);
        worthIs("the first BILL alone is another's", x, 4, 0, 10 + 10 - 40, 1);
        x.rule(0, 1);
        worthIs("AGE 0, F 1", x, 1, 0, 0, 1);
        law(x, "0");
        x.years(1, 3);
        law(x, "12");
        for (int f = 1; f <= 5; f++) {
            x.rule(0, f);
            worthIs("AGE 3, F " + f, x, 1, 0, f <= 3 ? -40 : 0, 1);
        }
        law(x, "a=4?12;0");
        for (int f = 3; f <= 5; f++) {
            x.rule(0, f);
            worthIs("AGE 3, to break at 4, F " + f, x, 2, 0, f <= 4 ? 10 - 40 : 10, 1);
        }
        x.fix(0);
        law(x, "12");
        x.rule(0, 0);
        worthIs("itself is LAST", x, 1, 0, -40, 1);
    }

    @Says("for one THING alone (no NEXT)")
    static void noNext() {
        LastMender x = people(1, 0);
        for (int t = 0; t < 2; t++) x.thing(0, 1040);
        x.mend(0, 5, 1);
        x.mend(1, 5, 0);
        law(x, "t=0?12;0");
        for (int ty : new int[] {16, 15, 14}) worthIs("a NEXT one", x, ty, 0, ty % 10 * 10, 1);
        worthIs("one that breaks twice", x, 6, 0, 40 - 80, 1);
    }

    @Says("BEFORE and HALF left aside")
    static void halfAside() {
        LastMender x = one(1, 0, 10, 31, 1, "12");
        x.rule(1, 1);
        x.fix(2);
        x.fix(0);
        worthIs("LAST itself, BEFORE another one", x, 1, 0, -31, 1);
        debtsAre("its DEBTS", x, 1, 31);
        debtsAre("none of BEFORE", x, 21, 0);
        x.fix(2);
        worthIs("LAST another one, BEFORE itself", x, 1, 0, 0, 1);
        debtsAre("its DEBTS", x, 1, 0);
        debtsAre("all of LAST", x, 21, 31);
        is("RISK of all", x.smith(1, 1, 1, 0) + x.smith(3, 1, 1, 0), 31);
    }

    @Says("As fractions in lowest terms (0 by 1; the sign above).")
    static void lowestTerms() {
        LastMender x = one(1, 0, 0, 1, 1, "s=1?1;0");
        worthIs("12 to the 6", x, 6, 0, -1214423, 2985984);
        worthIs("12", x, 1, 0, -1, 12);
        worthIs("no years", x, 0, 0, 0, 1);
        x.mend(0, 4, 0);
        for (int y = 0; y <= 6; y++) worthIs("0 by 1", x, y, 0, 0, 1);
        int[][] terms = {{1, 12}, {1, 6}, {1, 4}, {1, 3}, {5, 12}, {1, 2}, {7, 12}, {2, 3}, {3, 4}, {5, 6}, {11, 12}, {1, 1}};
        x.mend(0, 4, 1);
        for (int n = 1; n <= 12; n++) {
            law(x, "s=1?" + n + ";0");
            worthIs("by " + n, x, 1, 0, -terms[n - 1][0], terms[n - 1][1]);
        }
        x.mend(0, 3, 1);
        law(x, "s=1?6;0");
        worthIs("as much as it costs", x, 1, 0, 0, 1);
        x.mend(0, 3, 2);
        worthIs("above", x, 1, 0, 1, 2);
    }

    @Says("by its WAY; BEST: with o free each year")
    static void byItsWay() {
        for (int state = 1; state <= 3; state++) {
            for (int way = 0; way <= 3; way++) {
                LastMender x = one(1, 7, 10, 0, state, "0");
                x.mend(0, 2, way);
                for (int y = 0; y <= 6; y++) {
                    worthIs("WAY " + way + ", STATE " + state, x, y, 0, y * (state <= way ? 3 : 10), 1);
                    worthIs("BEST, STATE " + state, x, y, 1, y * 10, 1);
                }
            }
        }
    }

    @Says("as is best for what follows (of like ones not)")
    static void ofLikeOnesNot() {
        for (int fee = 29; fee <= 31; fee++) {
            LastMender x = one(3, fee, 10, 20, 1, "12");
            is("a FEE of " + fee, x.now(1, 0), fee < 30 ? 1 : 0);
            worthIs("a FEE of " + fee, x, 1, 1, fee < 30 ? 10 - fee : -20, 1);
            is("the STATES", x.now(1, 1), fee < 30 ? 1 : 0);
            is("the least SKILL", x.now(1, 2), fee < 30 ? 2 : NOT);
        }
        LastMender x = one(3, 0, 10, 20, 3, "0");
        for (int y = 0; y <= 6; y++) is("without a FEE", x.now(y, 1), 0);
    }

    /** What a THING that wears by 3 of twelve has and costs, times 12 to the y; mended to 3. */
    private static long has(int fee, int y, int s, int mends) {
        if (y == 0) return 0;
        if (mends < 0) return Math.max(has(fee, y, s, 0), has(fee, y, s, 1));
        long unit = 1;
        for (int i = 1; i < y; i++) unit *= 12;
        int now = mends == 1 ? 3 : s;
        long worn = now > 1 ? 20 * unit + has(fee, y - 1, now - 1, -1) : -90 * unit + has(fee, y - 1, 3, -1);
        return 3 * worn + 9 * (20 * unit + has(fee, y - 1, now, -1)) - mends * fee * 12 * unit;
    }

    /** The greatest FEE at which it is mended with y YEARS ahead. */
    private static int greatestFee(int y) {
        int greatest = -1;
        for (int fee = 0; fee <= 99; fee++) {
            if (has(fee, y, 1, 1) > has(fee, y, 1, 0)) greatest = fee;
        }
        return greatest;
    }

    @Says("if BEST does so with as many YEARS ahead as are left")
    static void asManyAsAreLeft() {
        for (int y = 1; y <= 5; y++) {
            int most = greatestFee(y);
            for (int fee = most; fee <= most + 1; fee++) {
                LastMender x = one(3, fee, 20, 90, 1, "3");
                x.mend(0, 2, 4);
                is("with " + y + " ahead, a FEE of " + fee, x.now(y, 0), fee == most ? 1 : 0);
                for (int ahead = 0; ahead <= 6; ahead++) {
                    for (int part = 0; part <= 1; part++) {
                        is("WAY 4 as BEST", x.worth(ahead, 0, part), x.worth(ahead, 1, part));
                    }
                }
                long above = x.worth(y, 1, 0), below = x.worth(y, 1, 1), due = has(fee, y, 1, -1), unit = 1;
                for (int i = 0; i < y; i++) unit *= 12;
                is("BEST", above * (unit / below), due);
            }
        }
    }

    @Says("in deed (A YEAR, too) BEST looks 4 YEARS ahead")
    static void fourAhead() {
        int three = greatestFee(3), four = greatestFee(4), five = greatestFee(5);
        is("more YEARS ahead, more FEES", three < four && four < five);
        int breaks = 0, not = 0;
        while (drawn(breaks, 1) >= 3) breaks++;
        while (drawn(not, 1) < 3) not++;
        for (int seed : new int[] {breaks, not}) {
            for (int fee : new int[] {three, three + 1, four, four + 1, five, five + 1}) {
                LastMender x = one(3, fee, 20, 90, 1, "3");
                x.mend(0, 2, 4);
                String call = "a FEE of " + fee + ", seed " + seed + ": ";
                boolean mends = fee <= four, broke = !mends && seed == breaks;
                is(call + "ruled", x.ruled(seed, 1, 1), broke ? 1 : 0);
                is(call + "ruined", x.ruined(seed, -20, 0) == 1, broke);
                int purse = x.of(0, 3);
                is(call + "years", x.years(seed, 1), broke ? 1 : 0);
                is(call + "nails", x.of(0, 18), mends ? 1 : 0);
                is(call + "purse", x.of(0, 3) - purse, (broke ? -90 : 20) - (mends ? fee : 0));
            }
        }
    }

    @Says("NOW (what 0: 1, 0), STATES (1), GOOD (2; NOT). BAD.")
    static void badNows() {
        LastMender x = one(3, 5, 10, 20, 1, "12");
        for (int what : new int[] {LEAST, -1, 3, MOST}) is("now(1, " + what + ")", x.now(1, what), BAD);
        for (int what = 0; what <= 2; what++) {
            for (int ty : new int[] {LEAST, -10, -1, 7, 8, 9, 10, 17, 60, MOST}) {
                is("now(" + ty + ", " + what + ")", x.now(ty, what), BAD);
            }
        }
        is("now(1, 0)", x.now(1, 0), 1);
        is("now(1, 1)", x.now(1, 1), 1);
        is("now(1, 2)", x.now(1, 2), 2);
        is("now(0, 0)", x.now(0, 0), 0);
        is("now(0, 1)", x.now(0, 1), 0);
        is("now(0, 2)", x.now(0, 2), NOT);
    }

    @Says("STATES (bits 1, 2, 4 for 1, 2, 3) of which BEST would mend it now")
    static void statesByBits() {
        // Mended badly, it stays in one STATE, and in no other.
        for (int stays = 1; stays <= 3; stays++) {
            for (int state = 1; state <= 3; state++) {
                LastMender x = one(1, 1, 10, 90, state, "l&s=" + stays + "?0;12");
                is("it stays in " + stays, x.now(stays, 1), 1 << (stays - 1));
                is("its own STATE " + state, x.now(stays, 0), state == stays ? 1 : 0);
                is("a YEAR less", x.now(stays - 1, 1), 0);
            }
        }
        // Worn less by far once it is mended: what can break in time is mended at once.
        for (int state = 1; state <= 3; state++) {
            LastMender x = one(1, 1, 10, 90, state, "l?1;12");
            for (int y = 0; y <= 3; y++) is("y " + y, x.now(y, 1), (1 << y) - 1);
            for (int y = 0; y <= 3; y++) is("its own STATE, y " + y, x.now(y, 0), state <= y ? 1 : 0);
        }
    }

    @Says("AGE and LAST as they are")
    static void ageAndLast() {
        LastMender x = one(1, 1, 10, 90, 1, "a&s=1?12;0");
        x.fix(0);
        is("AGE 0", x.now(1, 1), 0);
        x.years(1, 1);
        is("AGE 1", x.now(1, 1), 1);
        x.fix(2);
        law(x, "0");
        x.years(1, 1);
        law(x, "a&s=1?12;0");
        is("AGE 1, LAST another one: WORTH alone", x.now(1, 1), 1);
        x.mend(0, 3, 0);
        is("AGE 1, LAST another one, no WORTH", x.now(1, 1), 0);
        x.rule(0, 2);
        is("F 2", x.now(1, 1), 0);
        x.rule(0, 1);
        is("F 1", x.now(1, 1), 1);
        x = one(1, 1, 10, 90, 3, "l&s=3?0;12");
        is("nobody is LAST", x.now(3, 1), 4);
        x.fix(0);
        is("itself is LAST", x.now(3, 1), 0);
    }

    @Says("GOOD: the least SKILL (1 .. 3) by which BEST of o, its FEE as it is, would mend it now; NOT.")
    static void good() {
        for (int skill = 1; skill <= 3; skill++) {
            LastMender x = one(skill, 1, 10, 90, 1, "a>1?12;0");
            is("SKILL 1 does", x.now(1, 2), 1);
            x = one(skill, 1, 10, 90, 1, "12");
            is("SKILL 2 does", x.now(1, 2), 2);
            for (int fee = 14; fee <= 31; fee++) {
                x = one(skill, fee, 10, 20, 1, "s<3?12;0");
                is("a FEE of " + fee + " in two years", x.now(2, 2), fee < 15 ? 2 : fee < 30 ? 3 : NOT);
            }
        }
    }

    @Says("would mend it now; NOT.")
    static void goodByAgeAndLast() {
        LastMender x = one(1, 1, 0, 90, 1, "a=2?12;0");
        law(x, "0");
        x.thing(0, 0);
        x.fix(2);
        x.years(1, 2);
        law(x, "a=2?12;0");
        is("another thing", x.now(16, 2), NOT);
        is("AGE 2, another one pays", x.now(1, 2), NOT);
        x.rule(0, 2);
        is("another thing", x.now(16, 2), NOT);
        is("AGE 2, forgotten", x.now(1, 2), 1);
        x.rule(0, 0);
        x.fix(0);
        is("AGE 0", x.now(1, 2), NOT);
        law(x, "0");
        x.years(1, 2);
        law(x, "a=2?12;0");
        is("another thing", x.now(16, 2), NOT);
        is("AGE 2, LAST itself", x.now(1, 2), 1);
    }

    @Says("SMITH p: what o could pay (what 0), RISK (1). (p is o: BAD.)")
    static void badSmiths() {
        LastMender x = one(1, 0, 10, 40, 1, "12");
        for (int part = 0; part <= 1; part++) {
            for (int what = 0; what <= 1; what++) {
                for (int p : new int[] {LEAST, -1, 3, 5, MOST}) is("smith(1, " + p + ", ..)", x.smith(1, p, what, part), NO_LONG);
                is("p is o", x.smith(1, 0, what, part), NO_LONG);
            }
            for (int what : new int[] {LEAST, -1, 2, MOST}) is("what " + what, x.smith(1, 1, what, part), NO_LONG);
        }
        smithIs("what o could pay", x, 1, 1, 0, 10 + 40);
        smithIs("RISK", x, 1, 2, 1, 40);
    }

    @Says("SMITH: another one p mends it now (o leaves it this year): by how much what BEST has for o (from the next YEAR on) "
        + "is more so than if nothing is done this YEAR: what o could pay")
    static void whatOCouldPay() {
        LastMender x = one(3, 1, 10, 40, 1, "12");
        smithIs("no YEARS", x, 0, 1, 0, 0);
        smithIs("o leaves it this year", x, 1, 1, 0, 10 + 40);
        smithIs("a SKILL of no use: the BILL", x, 1, 2, 0, 40);
        // Mended by 1: 2 then 1, whole in both; else broken, then 3 to 2.
        smithIs("two YEARS", x, 2, 1, 0, 20 - (-40 + 10));
        // Left at 1 by p in the second YEAR, o mends it in the third by a FEE of 1.
        smithIs("three YEARS", x, 3, 1, 0, 30 - 1 - (-40 + 20));
        law(x, "l?12;0");
        smithIs("it is worse so", x, 1, 2, 0, -10);
        law(x, "0");
        smithIs("it is all one", x, 6, 1, 0, 0);
        x.mend(0, 2, 3);
        law(x, "12");
        smithIs("whatever its WAY", x, 1, 1, 0, 10 + 40);
    }

    @Says("p's RISK: the mean of the BILL that it pays as LAST, not FORGOTTEN, as the THING breaks for the first time within y "
        + "YEARS, nobody mending it.")
    static void risk() {
        LastMender x = one(1, 0, 10, 40, 1, "12");
        x.mend(0, 2, 3);
        for (int y = 0; y <= 6; y++) {
            smithIs("SKILL 3, " + y + " YEARS", x, y, 1, 1, y < 3 ? 0 : 40);
            smithIs("SKILL 1, " + y + " YEARS", x, y, 2, 1, y < 1 ? 0 : 40);
        }
        for (int f = 0; f <= 9; f++) {
            x.rule(0, f);
            smithIs("AGE 2, F " + f, x, 6, 1, 1, f == 0 || f > 2 ? 40 : 0);
            smithIs("AGE 0, F " + f, x, 6, 2, 1, 40);
        }
        x.rule(0, 0);
        law(x, "s=1?6;0");
        isFraction("six halves", x.smith(6, 2, 1, 0), x.smith(6, 2, 1, 1), 315, 8);
        x.rule(0, 2);
        isFraction("two of six", x.smith(6, 2, 1, 0), x.smith(6, 2, 1, 1), 30, 1);
    }

    @Says("GIFT to q. (q is o: BAD.)")
    static void badGifts() {
        LastMender x = one(1, 0, 10, 40, 1, "12");
        for (int part = 0; part <= 1; part++) {
            for (int q : new int[] {LEAST, -1, 3, 5, MOST}) is("gift(1, " + q + ", ..)", x.gift(1, q, part), NO_LONG);
            is("q is o", x.gift(1, 0, part), NO_LONG);
        }
        giftIs("gift(1, 1, ..)", x, 1, 1, 10 - 8);
        giftIs("gift(1, 2, ..)", x, 1, 2, -40);
        giftIs("no YEARS", x, 0, 1, 0);
    }

    @Says("if it owned it (as it is, with LAST as it is: if that is q, q pays)")
    static void giftAsItIs() {
        LastMender x = one(1, 0, 0, 40, 1, "12");
        giftIs("nobody is LAST: q pays", x, 1, 2, -2 + 2 - 40);
        x.fix(0);
        giftIs("o is: o pays", x, 1, 2, 0);
        x.fix(2);
        giftIs("q is: q pays", x, 1, 2, -40);
        giftIs("to another: q pays still", x, 1, 1, 0);
        law(x, "0");
        x.years(1, 2);
        law(x, "12");
        for (int f = 1; f <= 4; f++) {
            x.rule(0, f);
            giftIs("AGE 2, F " + f + ": LAST another one", x, 1, 1, f <= 2 ? -8 : 0);
            giftIs("AGE 2, F " + f + ": LAST q", x, 1, 2, -40);
        }
        x.mend(2, 2, 3);
        giftIs("BEST, whatever its WAY", x, 1, 2, -40);
        is("o owns it", x.of(0, 10), 0);
    }

    @Says("DEBTS (py: 10 times the PERSON and y).")
    static void badDebts() {
        LastMender x = one(1, 0, 10, 40, 1, "12");
        x.fix(2);
        for (int part = 0; part <= 1; part++) {
            for (int py : new int[] {LEAST, -10, -1, 7, 8, 9, 27, 29, 30, 36, 50, MOST}) {
                is("debts(" + py + ", ..)", x.debts(py, part), NO_LONG);
            }
            is("nobody is there", new LastMender().debts(0, part), NO_LONG);
        }
        for (int part : new int[] {LEAST, -1, 2, MOST}) is("debts(21, " + part + ")", x.debts(21, part), NO_LONG);
        debtsAre("debts(20, ..)", x, 20, 0);
        debtsAre("debts(26, ..)", x, 26, 40);
        debtsAre("nobody's nail", x, 16, 0);
    }

    @Says("DEBTS of one: its RISKS of all THINGS whose LAST it is, as they are, together. (Each alone.)")
    static void debtsTogether() {
        LastMender x = people(1, 0, 1, 0, 1, 0);
        int[] bills = {1, 2, 4, 8, 16, 32};
        for (int t = 0; t < 6; t++) x.thing(t % 3, bills[t]);
        for (int t = 0; t < 5; t++) x.mend(t, 5, t + 1);
        law(x, "12");
        x.years(1, 2);
        for (int t = 0; t < 6; t++) x.fix(10 * t + (t == 4 ? 1 : 0));
        x.fix(1);
        x.fix(0);
        debtsAre("all but one, its own too", x, 6, 1 + 2 + 4 + 8 + 32);
        debtsAre("the one", x, 16, 16);
        debtsAre("none", x, 26, 0);
        law(x, "t+1");
        isFraction("of twelfths", x.debts(1, 0), x.debts(1, 1), 1 + 2 * 2 + 3 * 4 + 4 * 8 + 6 * 32, 12);
        law(x, "0");
        x.years(1, 3);
        law(x, "12");
        for (int f = 2; f <= 4; f++) {
            x.rule(0, f);
            debtsAre("AGE 3, F " + f, x, 1, f <= 3 ? 0 : 47);
        }
        x.rule(0, 5);
        law(x, "a>4?12;0");
        debtsAre("forgotten as it breaks", x, 6, 0);
        x.rule(0, 6);
        debtsAre("not yet forgotten", x, 2, 0);
        debtsAre("not yet forgotten", x, 3, 47);
    }

    @Says("RULED: F (what 0), how many BREAK (1). BAD.")
    static void badRuled() {
        LastMender x = one(1, 0, 10, 40, 1, "12");
        long[] before = all(x);
        for (int what : new int[] {LEAST, -1, 2, MOST}) is("ruled(1, 1, " + what + ")", x.ruled(1, 1, what), BAD);
        for (int n : new int[] {LEAST, -1, 0, 21, 30, MOST}) {
            is("ruled(1, " + n + ", 0)", x.ruled(1, n, 0), BAD);
            is("ruled(1, " + n + ", 1)", x.ruled(1, n, 1), BAD);
        }
        isAll("what is BAD", x, before);
    }

    @Says("over n YEARS (1 .. 20) by a SEED in thought")
    static void oneToTwentyYears() {
        LastMender x = one(1, 0, 10, 40, 1, "12");
        x.rule(0, 4);
        x.rule(1, 1);
        long[] before = all(x);
        for (int n : new int[] {1, 2, 3, 4, 19, 20}) {
            is("ruled(1, " + n + ", 1)", x.ruled(1, n, 1), (n + 2) / 3);
            is("ruled(1, " + n + ", 0)", x.ruled(1, n, 0), 0);
        }
        isAll("what is thought", x, before);
        is("F is as it was", x.rule(0, 4), 4);
        is("HALF is as it was", x.rule(1, 1), 1);
        law(x, "6");
        for (int seed : new int[] {0, 5, -9, MOST, LEAST}) {
            int state = 1, broke = 0;
            for (int i = 1; i <= 20; i++) {
                if (drawn(seed, i) < 6 && --state == 0) {
                    state = 3;
                    broke++;
                }
            }
            is("ruled(" + seed + ", 20, 1)", x.ruled(seed, 20, 1), broke);
        }
    }

    /** Its owner mends it as soon as nobody else would pay; mended, it does not break. */
    private static LastMender mendedIfForgotten(int age) {
        LastMender x = people(3, 1, 1, 0);
        x.mend(0, 2, 4);
        x.thing(0, 50);
        wear(x, 0, 1);
        x.fix(1);
        law(x, "0");
        if (age > 0) {
            x.mend(0, 2, 0);
            x.years(1, age);
            x.mend(0, 2, 4);
        }
        law(x, "a=" + age + "?12;0");
        return x;
    }

    @Says("RULED: of F 0 .. 9 that by which")
    static void fromNoneToNine() {
        for (int age = 1; age <= 10; age++) {
            LastMender x = mendedIfForgotten(age);
            is("AGE " + age + ": F", x.ruled(1, 1, 0), 1);
            is("AGE " + age + ": none breaks", x.ruled(1, 1, 1), 0);
        }
        LastMender x = mendedIfForgotten(0);
        is("AGE 0: no F, so the least", x.ruled(1, 1, 0), 0);
        is("AGE 0: it breaks by each", x.ruled(1, 1, 1), 1);
        // Only 9 leaves it be: see ThoughtTest.
        x = people(1, 9, 3, 0);
        x.mend(0, 2, 4);
        x.thing(0, 1935);
        law(x, "a%3*4");
        x.fix(1);
        is("F 9", x.ruled(60, 20, 0), 9);
    }

    @Says("fewest BREAK (of like ones the least F): it; how many.")
    static void leastOfLikeOnes() {
        LastMender x = new LastMender();
        is("nothing is there", x.ruled(1, 20, 0), 0);
        is("nothing breaks", x.ruled(1, 20, 1), 0);
        x = one(1, 0, 10, 40, 3, "0");
        for (int f = 0; f <= 9; f += 3) {
            x.rule(0, f);
            is("none breaks by any, F " + f, x.ruled(1, 20, 0), 0);
            is("none breaks by any, F " + f, x.ruled(1, 20, 1), 0);
        }
        x = mendedIfForgotten(4);
        is("1 to 4 are alike", x.ruled(1, 1, 0), 1);
        x.rule(0, 3);
        is("whatever F is", x.ruled(1, 1, 0), 1);
    }

    @Says("RUINED: the YEAR (what 0), who (1). BAD; NOT.")
    static void badRuined() {
        LastMender x = one(1, 0, 0, 40, 1, "12");
        long[] before = all(x);
        for (int what : new int[] {LEAST, -1, 2, MOST}) is("ruined(1, 0, " + what + ")", x.ruined(1, 0, what), BAD);
        for (int below : new int[] {LEAST, -1001, -1000, 1, 2, MOST}) {
            is("ruined(1, " + below + ", 0)", x.ruined(1, below, 0), BAD);
            is("ruined(1, " + below + ", 1)", x.ruined(1, below, 1), BAD);
        }
        is("ruined(1, 0, 0)", x.ruined(1, 0, 0), 1);
        is("ruined(1, 0, 1)", x.ruined(1, 0, 1), 0);
        is("ruined(1, -999, 0)", x.ruined(1, -999, 0), NOT);
        is("ruined(1, -999, 1)", x.ruined(1, -999, 1), NOT);
        isAll("what is thought", x, before);
        is("nobody is there", new LastMender().ruined(1, 0, 0), NOT);
        is("nobody is there", new LastMender().ruined(1, 0, 1), NOT);
    }

    @Says("the first YEAR (1 .. 30) behind which somebody's PURSE is below a told number")
    static void firstYear() {
        LastMender x = one(1, 0, 0, 40, 1, "12");
        for (int n = 1; n <= 10; n++) {
            int year = 3 * n - 2;
            is("just below", x.ruined(1, 1 - 40 * n, 0), year);
            is("just at it, so later", x.ruined(1, -40 * n, 0), n == 10 ? NOT : year + 3);
        }
        x = people(1, 0);
        x.thing(0, 40);
        law(x, "12");
        is("in the thirtieth", x.ruined(1, -399, 0), 30);
        is("in the thirtieth", x.ruined(1, -399, 1), 0);
        is("not in the thirtieth", x.ruined(1, -400, 0), NOT);
        is("not in the thirtieth", x.ruined(1, -400, 1), NOT);
        law(x, "0");
        is("never at 0", x.ruined(1, 0, 0), NOT);
        x.person(1, 1);
        x.fix(1);
        is("from the first, as it is below by now", x.ruined(1, 0, 0), 1);
        is("who", x.ruined(1, 0, 1), 1);
        is("as it stays at -1", x.ruined(1, -1, 0), NOT);
    }

    @Says("is below a told number (-999 .. 0)")
    static void toldNumbers() {
        LastMender x = people(1, 99);
        x.thing(0, 0);
        law(x, "0");
        for (int i = 0; i < 10; i++) x.fix(0);
        is("-990", x.of(0, 3), -990);
        is("ruined(1, -989, 0)", x.ruined(1, -989, 0), 1);
        is("ruined(1, -990, 0)", x.ruined(1, -990, 0), NOT);
        x.mend(0, 1, 9);
        x.fix(0);
        is("ruined(1, -999, 0)", x.ruined(1, -999, 0), NOT);
        x.mend(0, 1, 1);
        x.fix(0);
        is("ruined(1, -999, 0)", x.ruined(1, -999, 0), 1);
        is("ruined(1, -1000, 0)", x.ruined(1, -1000, 0), BAD);
    }

    @Says("the YEAR; who (the least). NOT.")
    static void whoIsTheLeast() {
        for (int least = 0; least < 5; least++) {
            LastMender x = people(1, 0, 1, 0, 1, 0, 1, 0, 1, 0);
            for (int p = 4; p >= least; p--) x.thing(p, 40);
            law(x, "12");
            is("the YEAR", x.ruined(1, 0, 0), 3);
            is("who", x.ruined(1, 0, 1), least);
        }
        LastMender x = people(1, 0, 1, 0);
        x.thing(0, 40);
        x.thing(1, 40);
        wear(x, 1, 1);
        law(x, "12");
        is("the first to be so", x.ruined(1, 0, 1), 1);
        is("not the least of later ones", x.ruined(1, -40, 1), 1);
    }
}
