/** Promises 27 to 29. */
public final class ActsTest {
    private static final Due DUE = new Due("ActsTest");

    /** The kinds as classes: their bodies by the host's own way of calling. */
    private static class Person {
        final int n;
        final StringBuilder ran = new StringBuilder();

        Person(int n) {
            this.n = n;
        }

        int ran(int body, int x) {
            ran.append(body).append(' ');
            return x;
        }

        int mends(int x) {
            ran(1, 0);
            return x + n;
        }

        int pays(int x) {
            ran(10, 0);
            return mends(x) * 2;
        }

        int leaves(int x) {
            ran(11, 0);
            return x ^ n;
        }

        int tells(int x) {
            ran(2, 0);
            return pays(x) - leaves(1);
        }
    }

    private static class Leaver extends Person {
        Leaver(int n) {
            super(n);
        }

        int mends(int x) {
            ran(20, 0);
            return super.mends(x) + 3;
        }
    }

    private static class Night extends Person {
        Night(int n) {
            super(n);
        }

        int pays(int x) {
            ran(30, 0);
            return -super.pays(x);
        }
    }

    private static class Good extends Night {
        Good(int n) {
            super(n);
        }

        int leaves(int x) {
            ran(40, 0);
            return super.leaves(x) * 3;
        }

        int pays(int x) {
            ran(41, 0);
            return super.pays(x + 1);
        }
    }

    private static class Smith extends Leaver {
        Smith(int n) {
            super(n);
        }

        int leaves(int x) {
            ran(50, 0);
            return super.leaves(x) - mends(2);
        }
    }

    private static final class Best extends Good {
        Best(int n) {
            super(n);
        }

        int tells(int x) {
            ran(60, 0);
            return super.tells(x) ^ 5;
        }
    }

    private static final class Told extends Person {
        Told(int n) {
            super(n);
        }

        int mends(int x) {
            ran(70, 0);
            return super.mends(x) * 2;
        }
    }

    private static final class Ruined extends Smith {
        Ruined(int n) {
            super(n);
        }

        int pays(int x) {
            ran(80, 0);
            return super.pays(x) + leaves(2);
        }

        int tells(int x) {
            ran(81, 0);
            return super.tells(x) - 1;
        }
    }

    private static Person of(int kind, int n) {
        switch (kind) {
            case 0: return new Person(n);
            case 1: return new Leaver(n);
            case 2: return new Night(n);
            case 3: return new Good(n);
            case 4: return new Smith(n);
            case 5: return new Best(n);
            case 6: return new Told(n);
            default: return new Ruined(n);
        }
    }

    public static void main(String[] args) {
        bodies();
        acts();
        told();
        wrongCalls();
        DUE.end();
    }

    private static void bodies() {
        LastMender x = new LastMender();
        DUE.is("27: body(-1)", x.body(-1), LastMender.BAD);
        DUE.is("27: body(8)", x.body(8), LastMender.BAD);
        for (int i = 0; i < 50; i++) DUE.is("27: body", x.body(i % 8), i);
        DUE.is("27: full", x.body(0), LastMender.FULL);
        DUE.is("27: bad ahead of full", x.body(8), LastMender.BAD);
        DUE.is("27: count(6)", x.count(6), 50);
    }

    private static void acts() {
        LastMender x = new LastMender();
        for (int i = 0; i < 24; i++) x.body(i % 8);
        int[] with = {0, 1, -7, 1234567, Integer.MAX_VALUE, Integer.MIN_VALUE};
        for (int n = 0; n < 24; n++) {
            if (n > 8 && n < 16) continue;
            for (int act = 0; act < 4; act++) {
                int v = with[(n + act) % with.length];
                Person person = of(n % 8, n);
                int due = act == 0 ? person.mends(v) : act == 1 ? person.pays(v)
                    : act == 2 ? person.leaves(v) : person.tells(v);
                String call = "28: act(" + n + ", " + act + ", " + v + ")";
                DUE.is(call, x.act(n, act, v), due);
                String[] ran = person.ran.toString().trim().split(" ");
                DUE.is(call + " how many ran", x.count(7), ran.length);
                for (int i = 0; i < ran.length; i++) DUE.is("29: " + call, x.trace(i), Integer.parseInt(ran[i]));
                DUE.is("29: " + call + " behind the last", x.trace(ran.length), LastMender.BAD);
            }
        }
    }

    private static void told() {
        LastMender x = new LastMender();
        for (int i = 0; i < 8; i++) x.body(i);
        // RUINED 7: mends(4) is 4 + 7 + 3; leaves(2) is (2 ^ 7) - (2 + 7 + 3).
        DUE.is("28: act(7, 1, 4)", x.act(7, 1, 4), 28 + 5 - 12);
        int[] due = {80, 10, 20, 1, 50, 11, 20, 1};
        for (int i = 0; i < due.length; i++) DUE.is("29: trace(" + i + ")", x.trace(i), due[i]);
        DUE.is("28: act(5, 3, 1)", x.act(5, 3, 1), (-(2 + 5) * 2 - (1 ^ 5) * 3) ^ 5);
    }

    private static void wrongCalls() {
        LastMender x = new LastMender();
        DUE.is("29: none yet", x.trace(0), LastMender.BAD);
        x.body(7);
        for (int[] call : new int[][] {{1, 0}, {-1, 0}, {0, 4}, {0, -1}, {50, 0}}) {
            x.act(0, 3, 1);
            DUE.is("29: trace(-1)", x.trace(-1), LastMender.BAD);
            DUE.is("29: trace(24)", x.trace(24), LastMender.BAD);
            DUE.is("29: trace(0)", x.trace(0), 81);
            DUE.is("28: no such", x.act(call[0], call[1], 3), 0);
            DUE.is("29: no trace then", x.trace(0), LastMender.BAD);
            DUE.is("36: none ran", x.count(7), 0);
        }
    }
}
