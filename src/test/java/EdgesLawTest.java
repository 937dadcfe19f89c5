import java.io.IOException;

/** Boundary cases of THE TAPE and THE LAW, and of promises 8 and 9. */
public final class EdgesLawTest extends Edges {
    private static final String LEAST_INT = "(8192*8192*32)", MOST_INT = "(8192*8192*32-1)";

    public static void main(String[] args) throws IOException, IllegalAccessException {
        run(EdgesLawTest.class);
    }

    private static void fault(String text, int at) {
        is("the FAULT of " + text, Due.law(new LastMender(), text), -100 - at);
    }

    /** THE LAW's number of a THING of STATE 3, the second of two. */
    private static void gives(String text, int number) {
        LastMender x = people(1, 0);
        x.thing(0, 0);
        x.thing(0, 0);
        law(x, text);
        is("the number by " + text, x.of(1, 19), number);
    }

    private static void isSo(String text) {
        gives("(" + text + ")*7", 7);
    }

    private static String times(String text, int n) {
        return text.repeat(n);
    }

    @Says("A byte (0 .. 255) comes to THE TAPE: how many it has. BAD, FULL (120).")
    static void bytes() {
        LastMender x = new LastMender();
        for (int letter : new int[] {LEAST, -1, 256, 257, MOST}) is("feed(" + letter + ")", x.feed(letter), BAD);
        is("count(4)", x.count(4), 0);
        is("feed(0)", x.feed(0), 1);
        is("feed(255)", x.feed(255), 2);
        for (int i = 3; i <= 119; i++) x.feed('1');
        is("the 120th", x.feed('1'), 120);
        is("the 121st", x.feed('1'), FULL);
        is("the 122nd", x.feed(0), FULL);
        is("BAD ahead of FULL", x.feed(256), BAD);
        is("BAD ahead of FULL", x.feed(-1), BAD);
        is("count(4)", x.count(4), 120);
    }

    @Says("(at most 120 bytes)")
    static void longest() {
        LastMender x = people(1, 0);
        x.thing(0, 0);
        is("119 bytes", Due.feed(x, "1" + times("+0", 59)), 119);
        is("the 120th", x.feed('1'), 120);
        is("the 121st is not of it", x.feed('x'), FULL);
        is("law()", x.law(), 1);
        is("1 and 58 times 0 and 1", x.of(0, 19), 2);
        Due.feed(x, times("0+", 60));
        is("it ends too early", x.law(), -220);
        Due.feed(x, times("1", 4) + times("*0", 57) + "+9");
        is("116 of 120 bytes, and two at the end", x.law(), 1);
        is("of(0, 19)", x.of(0, 19), 9);
        Due.feed(x, times("0?0;", 29) + "0?0");
        is("thirty LINES of 119 bytes", x.law(), 1);
        is("of(0, 19)", x.of(0, 19), 0);
        Due.feed(x, times("0;", 59) + "5x");
        is("the fault of the 120th byte", x.law(), -219);
    }

    @Says("LINES, one or more, parted by ; .")
    static void lines() {
        fault("", 0);
        fault(";", 0);
        fault("1;", 2);
        fault(";1", 0);
        fault("1;;1", 2);
        fault("1?1;", 4);
        gives("1?2;3", 2);
        gives("4", 4);
        gives("0?2;0?3;5", 5);
    }

    @Says("LINE: E, or E ? E (what counts if the first is not 0).")
    static void asking() {
        fault("?", 0);
        fault("?1", 0);
        fault("1?", 2);
        fault("1??1", 2);
        fault("1?2?3", 3);
        fault("(1?2)", 2);
        gives("0?5", 0);
        gives("1?5", 5);
        gives("-1?5", 5);
        gives("9999?5", 5);
        gives(LEAST_INT + "?5", 5);
        gives("1-1?5;6", 6);
        gives("1|0?0|1", 1);
    }

    @Says("E = A { | A }.")
    static void ors() {
        fault("|1", 0);
        fault("1|", 2);
        fault("1||1", 2);
        gives("7", 7);
        gives("0|0", 0);
        gives("0|7", 1);
        gives("0|0|0|0|2", 1);
    }

    @Says("A = B { & B }.")
    static void ands() {
        fault("&1", 0);
        fault("1&", 2);
        fault("1&&1", 2);
        gives("7&7", 1);
        gives("7&7&7&7&0", 0);
        gives("1|0&0", 1);
        gives("0&0|1", 1);
    }

    @Says("B = S, or S < S, S = S, S > S.")
    static void comparing() {
        for (char first : "<=>".toCharArray()) {
            fault(first + "1", 0);
            fault("1" + first, 2);
            for (char second : "<=>".toCharArray()) {
                fault("1" + first + second + "1", 2);
                fault("1" + first + "2" + second + "3", 3);
                fault("(1" + first + "2" + second + "3", 4);
            }
        }
        isSo("(1<2)<3");
        isSo("(1<(2<3))=0");
        isSo("1<2&2<3");
        gives("1<2+1", 1);
        gives("1<2&1", 1);
    }

    @Says("S = P { + P, - P }.")
    static void sums() {
        fault("+1", 0);
        fault("1+", 2);
        fault("1++1", 2);
        fault("1-", 2);
        gives("9-4-3", 2);
        gives("9-4+3", 8);
        gives("1--1", 2);
        gives("1+1+1+1+1", 5);
    }

    @Says("P = O { * O, / O, % O }.")
    static void products() {
        for (char sign : "*/%".toCharArray()) {
            fault(sign + "1", 0);
            fault("1" + sign, 2);
            fault("1" + sign + sign + "1", 2);
        }
        gives("60/6/5", 2);
        gives("60/6*5%7", 1);
        gives("2*3+1", 7);
        gives("1+2*3", 7);
        gives("8-6/2", 5);
    }

    @Says("a number (1 to 4 digits)")
    static void digits() {
        isSo("9=9");
        isSo("99-90=9");
        isSo("999-990=9");
        isSo("9999-9990=9");
        gives("0000", 0);
        gives("0012", 12);
        fault("12345", 4);
        fault("00000", 4);
        fault("1+12345", 6);
        fault("(12345)", 5);
        fault("1 2", 1);
        gives("9999?5", 5);
    }

    @Says("! O, - O, ( E ). No blanks.")
    static void operands() {
        fault("!", 1);
        fault("-", 1);
        fault("(", 1);
        fault("()", 1);
        fault(")", 0);
        fault("(1", 2);
        fault("(1))", 3);
        fault("1!", 1);
        fault("1(2)", 1);
        fault("(1)2", 3);
        fault("(1;2)", 2);
        fault("!;", 1);
        gives("-5+9", 4);
        gives("!5+9", 9);
        gives("-(5)+9", 4);
        gives("(2|0)+3", 4);
    }

    @Says("No blanks.")
    static void blanks() {
        for (char blank : " \t\n\r".toCharArray()) {
            fault(blank + "1", 0);
            fault("1" + blank, 1);
            fault("1" + blank + "+1", 1);
            fault("1+" + blank + "1", 2);
            fault("(1" + blank + ")", 2);
            fault("1;" + blank + "1", 2);
        }
        fault("1" + (char) 0, 1);
        fault("1" + (char) 255, 1);
        fault((char) 160 + "1", 0);
    }

    @Says("NAMES: s STATE, t the THING, a AGE, l 1 if somebody is LAST (else 0).")
    static void names() {
        LastMender x = people(1, 0);
        for (int t = 0; t < 6; t++) x.thing(0, 0);
        law(x, "t*2+l");
        x.fix(50);
        for (int t = 0; t < 6; t++) is("of(" + t + ", 19)", x.of(t, 19), t == 5 ? 11 : 2 * t);
        law(x, "l");
        for (int t = 0; t < 6; t++) is("of(" + t + ", 19)", x.of(t, 19), t == 5 ? 1 : 0);
        for (char sign : "STALbemr_x$".toCharArray()) fault("" + sign, 0);
        for (char sign : "stal".toCharArray()) {
            fault(sign + "1", 1);
            fault("1" + sign, 1);
            fault("" + sign + sign, 1);
        }
    }

    @Says("s STATE")
    static void stateByName() {
        for (int state = 1; state <= 3; state++) {
            LastMender x = people(1, 0);
            x.thing(0, 0);
            wear(x, 0, state);
            law(x, "s");
            is("s", x.of(0, 19), state);
        }
    }

    @Says("a AGE")
    static void ageByName() {
        LastMender x = people(1, 0);
        x.thing(0, 0);
        law(x, "0");
        x.years(1, 12);
        law(x, "a");
        is("a of 12", x.of(0, 19), 12);
        x.fix(0);
        is("a of 0", x.of(0, 19), 0);
        law(x, "0");
        for (int i = 0; i < 4; i++) x.years(1, 30);
        law(x, "a-90");
        is("a of 99", x.of(0, 19), 9);
    }

    @Says("At most 6 of ( ! - ahead of an O are open at once.")
    static void sixOpen() {
        for (char sign : "!-".toCharArray()) {
            isSo(times("" + sign, 5) + "1=" + (sign == '!' ? "0" : "-1"));
            gives(times("" + sign, 6) + "1", 1);
            fault(times("" + sign, 7) + "1", 6);
            fault(times("(", 3) + times("" + sign, 4) + "1", 6);
            fault(times("" + sign, 6) + "(1)", 6);
        }
        gives("((((((5))))))", 5);
        fault("(((((((5)))))))", 6);
        fault("((((((-5", 6);
        fault("((((((5", 7);
        fault("1+(((((((5", 8);
        fault("1;(((((((5", 8);
        fault("1?(((((((5", 8);
    }

    @Says("are open at once")
    static void closedAreNotOpen() {
        gives("((((((5))))))+((((((5))))))", 10);
        gives("!!!!!!5+------5", 6);
        gives("-1+-1+-1+-1+-1+-1+-1+-1+9", 1);
        gives("((1)+(1)+(1)+(1)+(1)+(1)+(1))", 7);
        gives("!(!(!(0)))+!(!(!(0)))", 2);
        gives("(((((1+(1))))))", 2);
        fault("((((((1+(1", 8);
        fault("((((((1)+((1", 10);
        gives("((((((1)+(1))))))", 2);
        fault("((((((1+-1", 8);
        gives("((((((1-1+1))))))", 1);
        gives("((((((3*2-1))))))", 5);
        fault("!((((((1", 6);
    }

    @Says("Ints that wrap")
    static void wrapping() {
        isSo(LEAST_INT + "<0");
        isSo(MOST_INT + ">0");
        isSo(MOST_INT + "+1=" + LEAST_INT);
        isSo(LEAST_INT + "-1=" + MOST_INT);
        isSo("-" + LEAST_INT + "=" + LEAST_INT);
        isSo("0-" + LEAST_INT + "=" + LEAST_INT);
        isSo(LEAST_INT + "*-1=" + LEAST_INT);
        isSo(LEAST_INT + "/-1=" + LEAST_INT);
        isSo(LEAST_INT + "%-1=0");
        isSo(LEAST_INT + "*2=0");
        isSo(MOST_INT + "*2=-2");
        isSo(MOST_INT + "*" + MOST_INT + "=1");
        int wrapped = 9999 * 9999 * 9999;
        gives("9999*9999*9999%11+10", wrapped % 11 + 10);
        gives("9999*9999*9999/9999/9999+12", wrapped / 9999 / 9999 + 12);
        isSo(LEAST_INT + "<" + MOST_INT);
        isSo("!(" + LEAST_INT + "-1<0)");
    }

    @Says("/ and % toward 0, by 0 they give 0")
    static void dividing() {
        gives("-7/2+9", 6);
        gives("7/-2+9", 6);
        gives("-7/-2", 3);
        gives("-1/2+9", 9);
        gives("7/2", 3);
        gives("-7%4+9", 6);
        gives("7%-4", 3);
        gives("-7%-4+9", 6);
        gives("8%4", 0);
        for (String n : new String[] {"0", "5", "-5", LEAST_INT, MOST_INT}) {
            gives(n + "/0+3", 3);
            gives(n + "%0+3", 3);
            gives(n + "/(1-1)+3", 3);
            gives("0/" + n + "+3", 3);
            gives("0%" + n + "+3", 3);
        }
    }

    @Says("| & < = > ! give 1, 0")
    static void onesAndZeros() {
        int[] values = {-2, -1, 0, 1, 2, 7};
        for (int x : values) {
            gives("!(" + x + ")+3", x == 0 ? 4 : 3);
            for (int y : values) {
                String a = "((" + x + ")", b = "(" + y + "))*5";
                gives(a + "|" + b, x != 0 || y != 0 ? 5 : 0);
                gives(a + "&" + b, x != 0 && y != 0 ? 5 : 0);
                gives(a + "<" + b, x < y ? 5 : 0);
                gives(a + "=" + b, x == y ? 5 : 0);
                gives(a + ">" + b, x > y ? 5 : 0);
            }
        }
    }

    @Says("all is worked out")
    static void allIsWorkedOut() {
        gives("(1|5/0)*4", 4);
        gives("(0&5%0)*4", 0);
        gives("(5/0|1)*4", 4);
        gives("5/0?3;4", 4);
        gives("1?5/0;4", 0);
    }

    @Says("The first LINE without a first E, or whose first E is not 0, counts; none: 0.")
    static void firstThatCounts() {
        gives("3;4", 3);
        gives("0;4", 0);
        gives("0?3;4;5", 4);
        gives("0?3;1?4;5", 4);
        gives("0?3;0?4;5", 5);
        gives("2?0;5", 0);
        gives("0?3", 0);
        gives("0?3;0?4", 0);
        gives("s=1?1;s=2?2;s=3?3;9", 3);
        gives("t?6;7", 6);
    }

    @Says("FAULT: the place (from 0) of the first byte with which no TEXT goes on; the length, if it ends too early.")
    static void faults() {
        fault("x", 0);
        fault("x+", 0);
        fault("1x+", 1);
        fault("1+x+", 2);
        fault("1;x;", 2);
        fault("", 0);
        fault("1+", 2);
        fault("1+(", 3);
        fault("1+(2", 4);
        fault("1?", 2);
        fault("1?2;", 4);
        fault("s<(t", 4);
        fault("s<t;;", 4);
        fault("(((1)", 5);
        fault("(((1))))", 7);
        fault("12345x", 4);
    }

    @Says("(held within 0 .. 12)")
    static void held() {
        int[] n = {-9999, -1, 0, 1, 11, 12, 13, 9999};
        for (int v : n) gives("(" + v + ")", Math.max(0, Math.min(12, v)));
        gives(LEAST_INT, 0);
        gives(MOST_INT, 12);
        LastMender x = people(1, 0);
        x.thing(0, 0);
        law(x, "13");
        x.years(3, 3);
        is("each of twelve", x.count(3), 1);
        law(x, "-1");
        x.years(3, 30);
        is("none of twelve", x.count(3), 1);
        is("none of twelve", x.of(0, 13), 3);
    }

    @Says("Without a text 7 less 2 s.")
    static void withoutText() {
        int[] seen = new int[4];
        for (int seed = 1; seed <= 40; seed++) {
            LastMender x = people(1, 0);
            x.thing(0, 0);
            if (seed % 2 == 0) is("no LAW yet", Due.law(x, "12+"), -103);
            x.years(seed * 7919, 5);
            int s = x.of(0, 13);
            is("the number of STATE " + s, x.of(0, 19), 7 - 2 * s);
            seen[s]++;
        }
        for (int s = 1; s <= 3; s++) is("STATE " + s + " was met", seen[s] > 0);
    }

    @Says("THE TAPE becomes THE LAW: 1; -100 less its FAULT; THE TAPE is empty then.")
    static void emptyThen() {
        LastMender x = people(1, 0);
        x.thing(0, 0);
        is("nothing", x.law(), -100);
        is("without a text", x.of(0, 19), 1);
        Due.feed(x, "9");
        is("count(4)", x.count(4), 1);
        is("without a text still", x.of(0, 19), 1);
        is("law()", x.law(), 1);
        is("count(4)", x.count(4), 0);
        is("of(0, 19)", x.of(0, 19), 9);
        Due.feed(x, "4+");
        is("law()", x.law(), -102);
        is("count(4)", x.count(4), 0);
        is("THE LAW is as it was", x.of(0, 19), 9);
        is("nothing", x.law(), -100);
        is("THE LAW is as it was", x.of(0, 19), 9);
        is("a first byte", Due.feed(x, "3"), 1);
        is("law()", x.law(), 1);
        is("of(0, 19)", x.of(0, 19), 3);
    }
}
