/** Promises 10 to 15. */
public final class DeedTest {
    private static final Due DUE = new Due("DeedTest");

    public static void main(String[] args) {
        fix();
        yearsByWays();
        draws();
        chains();
        whoPays();
        half();
        led();
        layers();
        told();
        over();
        oldest();
        DUE.end();
    }

    private static LastMender two() {
        LastMender x = new LastMender();
        x.person(2, 5);
        x.person(3, 8);
        return x;
    }

    private static void fix() {
        LastMender x = two();
        x.thing(0, 1000);
        Due.law(x, "12");
        x.years(1, 2);
        DUE.is("10: worn", x.of(0, 13), 1);
        DUE.is("10: age", x.of(0, 17), 2);
        DUE.is("10: fix(0)", x.fix(0), 2);
        DUE.is("10: age", x.of(0, 17), 0);
        DUE.is("10: fix(1)", x.fix(1), 3);
        DUE.is("10: fix(0)", x.fix(0), 3);
        DUE.is("10: last", x.of(0, 15), 0);
        DUE.is("10: before", x.of(0, 16), 1);
        DUE.is("10: purse", x.of(0, 3), 20 - 10);
        DUE.is("10: purse", x.of(1, 3), -8);
        DUE.is("10: fees", x.of(0, 5), 10);
        DUE.is("10: bills", x.of(0, 4), 0);
        for (int tp : new int[] {-1, -10, 2, 9, 10, 60, Integer.MAX_VALUE, Integer.MIN_VALUE}) {
            DUE.is("10: fix(" + tp + ")", x.fix(tp), LastMender.BAD);
        }
    }

    private static void yearsByWays() {
        for (int way = 0; way <= 3; way++) {
            LastMender x = two();
            x.mend(1, 2, way);
            x.thing(1, 1000);
            Due.law(x, "12");
            DUE.is("11: years(1, 2)", x.years(1, 2), 0);
            DUE.is("11: state", x.of(0, 13), way == 3 ? 2 : way == 2 ? 2 : 1);
            int mended = way == 3 ? 2 : way == 2 ? 1 : 0;
            DUE.is("11: nails", x.of(0, 18), mended);
            DUE.is("11: years(1, 1)", x.years(1, 1), way == 0 ? 1 : 0);
            mended += way == 0 || way == 2 ? 0 : 1;
            if (way == 2) mended++;
            DUE.is("11: nails", x.of(0, 18), mended);
            DUE.is("11: purse", x.of(1, 3), (way == 0 ? 20 : 30) - 8 * mended);
        }
        LastMender x = new LastMender();
        DUE.is("11: years(0, 0)", x.years(0, 0), LastMender.BAD);
        DUE.is("11: years(0, 31)", x.years(0, 31), LastMender.BAD);
        DUE.is("11: years(0, -1)", x.years(0, -1), LastMender.BAD);
        DUE.is("11: years(0, 30)", x.years(0, 30), 0);
    }

    /** Two things draw in turn, year by year. */
    private static void draws() {
        for (int seed : new int[] {0, 1, -5, 77, Integer.MAX_VALUE, Integer.MIN_VALUE}) {
            LastMender x = two();
            x.thing(0, 100);
            x.thing(0, 100);
            Due.law(x, "t?4;6");
            int z = seed;
            int[] state = {3, 3};
            int broke = 0;
            for (int i = 0; i < 14; i++) {
                int t = i % 2;
                z = z * 1103515245 + 12345;
                if ((z >>> 8) % 12 < (t == 1 ? 4 : 6)) state[t]--;
                if (state[t] == 0) {
                    state[t] = 3;
                    broke++;
                }
            }
            DUE.is("11: years(" + seed + ", 7)", x.years(seed, 7), broke);
            DUE.is("11: state", x.of(0, 13), state[0]);
            DUE.is("11: state", x.of(1, 13), state[1]);
            DUE.is("11: whole", x.count(2), 14 - broke);
            DUE.is("11: broken", x.count(3), broke);
            DUE.is("11: purse", x.of(0, 3), 14 - broke);
        }
    }

    private static void chains() {
        LastMender x = two();
        for (int i = 0; i < 4; i++) x.thing(0, 0);
        x.mend(1, 5, 0);
        x.mend(2, 5, 3);
        x.mend(3, 5, 5);
        Due.law(x, "(t=1|t=2)*12");
        DUE.is("11: years(1, 3)", x.years(1, 3), 2);
        DUE.is("11: one gone by already", x.of(0, 13), 2);
        DUE.is("11: one to come", x.of(3, 13), 2);
        DUE.is("11: broken ones are new", x.of(1, 13), 3);
        DUE.is("11: years(1, 3)", x.years(1, 3), 2);
        DUE.is("11: state", x.of(0, 13), 1);
        x.mend(3, 5, 3);
        Due.law(x, "(t=1|t=2|t=3)*12");
        DUE.is("11: one, at 1, is not worn by a NEXT", x.years(1, 1), 1);
        DUE.is("11: itself is none", x.of(3, 13), 3);
        DUE.is("11: years(1, 2)", x.years(1, 2), 2);
        DUE.is("11: not below 1", x.of(0, 13), 1);
        DUE.is("11: state 1 breaks no sooner", x.of(3, 13), 1);
        x = two();
        x.thing(0, 0);
        x.thing(0, 0);
        x.mend(0, 5, 1);
        Due.law(x, "12");
        DUE.is("11: a NEXT of state 0 breaks once", x.years(1, 3), 2);
        DUE.is("11: state", x.of(1, 13), 3);
        x = two();
        x.thing(0, 0);
        x.thing(0, 0);
        x.mend(1, 5, 0);
        Due.law(x, "12");
        DUE.is("11: a new one loses at once", x.years(1, 3), 2);
        DUE.is("11: state", x.of(0, 13), 2);
    }

    /** A thing that breaks in its third year, its last mender being 1, its owner 0. */
    private static LastMender breaking(int forgotten, int half) {
        LastMender x = two();
        x.thing(0, 1031);
        x.rule(0, forgotten);
        x.rule(1, half);
        Due.law(x, "12");
        return x;
    }

    private static void whoPays() {
        LastMender x = breaking(0, 0);
        DUE.is("11: years(1, 3)", x.years(1, 3), 1);
        DUE.is("11: the owner pays", x.of(0, 3), 20 - 31);
        DUE.is("11: bills", x.of(0, 4), 31);
        DUE.is("12: paid(0)", x.paid(0), 0);
        int[] payer = {1, 0, 0, 1, 1, 1, 1, 1, 1, 1};
        for (int f = 0; f <= 9; f++) {
            x = breaking(f, 0);
            x.fix(1);
            x.years(1, 3);
            DUE.is("12: paid(0) behind " + f, x.paid(0), payer[f]);
            DUE.is("11: bills of the last", x.of(1, 4), payer[f] == 1 ? 31 : 0);
            DUE.is("11: bills of the owner", x.of(0, 4), payer[f] == 1 ? 0 : 31);
            DUE.is("11: nobody is last", x.of(0, 15), LastMender.NOT);
            DUE.is("11: nobody ahead", x.of(0, 16), LastMender.NOT);
            DUE.is("11: age", x.of(0, 17), 0);
            DUE.is("13: layers stay", x.of(0, 18), 1);
        }
    }

    private static void half() {
        LastMender x = breaking(0, 1);
        x.person(1, 2);
        x.fix(2);
        x.years(1, 3);
        DUE.is("11: none before: no half", x.of(2, 4), 31);
        x = breaking(0, 1);
        x.person(1, 2);
        x.fix(2);
        x.fix(1);
        x.years(1, 3);
        DUE.is("11: the last", x.of(1, 4), 16);
        DUE.is("11: the one before", x.of(2, 4), 15);
        DUE.is("11: the owner", x.of(0, 4), 0);
        DUE.is("11: purse", x.of(2, 3), -17);
        DUE.is("12: paid(0)", x.paid(0), 1);
        x = breaking(2, 1);
        x.person(1, 2);
        x.fix(2);
        x.fix(1);
        x.years(1, 3);
        DUE.is("11: forgotten: the owner alone", x.of(0, 4), 31);
        DUE.is("11: forgotten: none before", x.of(2, 4), 0);
        x = breaking(0, 1);
        x.fix(1);
        x.fix(1);
        x.years(1, 3);
        DUE.is("11: both halves", x.of(1, 4), 31);
        x = breaking(0, 0);
        x.person(1, 2);
        x.fix(2);
        x.fix(1);
        x.years(1, 3);
        DUE.is("11: no HALF", x.of(1, 4), 31);
    }

    private static void led() {
        LastMender x = two();
        x.thing(0, 1);
        DUE.is("12: no year yet", x.paid(0), LastMender.STATE);
        DUE.is("12: paid(1)", x.paid(1), LastMender.BAD);
        DUE.is("12: paid(-1)", x.paid(-1), LastMender.BAD);
        x.years(1, 1);
        x.thing(0, 1);
        DUE.is("12: not broken", x.paid(0), LastMender.NOT);
        DUE.is("12: came since", x.paid(1), LastMender.STATE);
        Due.law(x, "12");
        x.years(1, 3);
        DUE.is("12: paid(1)", x.paid(1), 0);
        x.ruled(1, 1, 0);
        x.ruined(1, 0, 0);
        DUE.is("12: not in thought", x.paid(1), 0);
        x.years(1, 1);
        DUE.is("12: of the latest alone", x.paid(1), LastMender.NOT);
    }

    private static void layers() {
        LastMender x = two();
        x.thing(0, 1);
        DUE.is("13: layer(0, 0)", x.layer(0, 0), LastMender.BAD);
        for (int i = 0; i < 10; i++) {
            x.fix(i == 3 || i == 9 ? 1 : 0);
            DUE.is("13: how many", x.of(0, 18), Math.min(8, i + 1));
        }
        int[] due = {0, 1, 0, 0, 0, 0, 0, 1};
        for (int i = 0; i < 8; i++) DUE.is("13: layer(0, " + i + ")", x.layer(0, i), due[i]);
        DUE.is("13: layer(0, 8)", x.layer(0, 8), LastMender.BAD);
        DUE.is("13: layer(0, -1)", x.layer(0, -1), LastMender.BAD);
        DUE.is("13: layer(1, 0)", x.layer(1, 0), LastMender.BAD);
        DUE.is("13: layer(-1, 0)", x.layer(-1, 0), LastMender.BAD);
        x.mend(0, 2, 3);
        x.ruined(1, 0, 0);
        DUE.is("13: no nail by thought", x.layer(0, 7), 1);
        x.years(1, 1);
        DUE.is("13: a nail by a year", x.layer(0, 7), 0);
    }

    private static void told() {
        LastMender x = two();
        x.thing(0, 1);
        DUE.is("14: told(6, 0)", x.told(6, 0), LastMender.BAD);
        DUE.is("14: told(-1, 0)", x.told(-1, 0), LastMender.BAD);
        DUE.is("14: told(0, 1)", x.told(0, 1), LastMender.BAD);
        DUE.is("14: nothing", x.told(0, 0), -11);
        x.row(0, 2, 0);
        DUE.is("14: ints", x.told(0, 0), -12);
        x.body(0);
        x.keep(0, 0);
        DUE.is("14: a person", x.told(0, 0), -12);
        Due.bytes(x, 0);
        DUE.is("14: no nails", x.told(0, 0), LastMender.NOT);
        x.fix(0);
        x.fix(1);
        x.fix(0);
        DUE.is("14: none told", x.told(0, 0), 0);
        Due.bytes(x, 0, 0, 1, 0);
        DUE.is("14: all told", x.told(0, 0), LastMender.NOT);
        Due.bytes(x, 0, 0, 1);
        DUE.is("14: one less", x.told(0, 0), 2);
        Due.bytes(x, 0, 0, 1, 0, 0);
        DUE.is("14: one more", x.told(0, 0), 3);
        Due.bytes(x, 0, 0, 0, 0, 0);
        DUE.is("14: another", x.told(0, 0), 1);
        Due.bytes(x, 0, -1, 1, 0);
        DUE.is("14: no such mender", x.told(0, 0), 0);
    }

    private static void over() {
        LastMender x = two();
        x.person(1, 0);
        x.thing(0, 1);
        x.thing(0, 1);
        for (int tp : new int[] {0, 1, 0, 1, 1, 10, 11, 12}) x.fix(tp);
        DUE.is("15: over(10)", x.over(10), 3);
        DUE.is("15: over(1)", x.over(1), 1);
        DUE.is("15: over(21)", x.over(21), 1);
        DUE.is("15: over(12)", x.over(12), 0);
        for (int pq : new int[] {0, 11, 22, 3, 30, 9, -1, -10, 100, Integer.MAX_VALUE}) {
            DUE.is("15: over(" + pq + ")", x.over(pq), LastMender.BAD);
        }
    }

    private static void oldest() {
        LastMender x = two();
        x.thing(0, 0);
        Due.law(x, "0");
        for (int i = 0; i < 3; i++) x.years(1, 30);
        x.years(1, 9);
        DUE.is("11: age", x.of(0, 17), 99);
        x.years(1, 30);
        DUE.is("11: 99 at most", x.of(0, 17), 99);
        for (int i = 1; i < 6; i++) x.thing(0, 0);
        x.fix(51);
        for (int i = 0; i < 4; i++) x.years(1, 30);
        Due.law(x, "l*3+t+(a>98)*4");
        for (int i = 0; i < 6; i++) DUE.is("7: of(" + i + ", 19)", x.of(i, 19), i == 5 ? 12 : i + 4);
    }
}
