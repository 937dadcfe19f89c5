import java.util.Random;
import java.util.TreeSet;

/** Promises 8 and 9, and what the law gives. */
public final class LawTest {
    private static final Due DUE = new Due("LawTest");

    public static void main(String[] args) {
        tape();
        numbers();
        lines();
        faults();
        oldLawStays();
        faultsAgainstAllEnds();
        DUE.end();
    }

    private static void tape() {
        LastMender x = new LastMender();
        DUE.is("8: feed(-1)", x.feed(-1), LastMender.BAD);
        DUE.is("8: feed(256)", x.feed(256), LastMender.BAD);
        for (int i = 1; i <= 120; i++) DUE.is("8: feed", x.feed(i % 2 == 0 ? 0 : 255), i);
        DUE.is("8: full", x.feed(115), LastMender.FULL);
        DUE.is("8: bad ahead of full", x.feed(256), LastMender.BAD);
        DUE.is("8: count(4)", x.count(4), 120);
        DUE.is("9: law()", x.law(), -100);
        DUE.is("9: the tape is empty", x.count(4), 0);
        DUE.is("9: law() of nothing", x.law(), -100);
    }

    private static int number(String text) {
        LastMender x = new LastMender();
        x.person(1, 0);
        x.thing(0, 0);
        x.thing(0, 0);
        DUE.is("9: " + text, Due.law(x, text), 1);
        return x.of(1, 19);
    }

    private static void numbers() {
        DUE.is("9: s", number("s"), 3);
        DUE.is("9: t", number("t"), 1);
        DUE.is("9: a", number("a"), 0);
        DUE.is("9: l", number("l"), 0);
        DUE.is("9: held above", number("13"), 12);
        DUE.is("9: held below", number("-1"), 0);
        DUE.is("9: 4 digits", number("0007"), 7);
        DUE.is("9: * ahead of +", number("1+2*3"), 7);
        DUE.is("9: from the left", number("9-3-2"), 4);
        DUE.is("9: from the left", number("40/5*2/2%5"), 3);
        DUE.is("9: cut", number("-7/2+9"), 6);
        DUE.is("9: rest", number("-7%4+9"), 6);
        DUE.is("9: by 0", number("7/0+5"), 5);
        DUE.is("9: rest by 0", number("7%0+5"), 5);
        DUE.is("9: not", number("!0+!7+!!9"), 2);
        DUE.is("9: below 0 twice", number("--5"), 5);
        DUE.is("9: brackets", number("((1+2)*3)"), 9);
        DUE.is("9: less", number("(2<3)+(3<2)*2+(3<3)*4"), 1);
        DUE.is("9: more", number("(2>3)+(3>2)*2+(3>3)*4"), 2);
        DUE.is("9: alike", number("(2=3)+(3=3)*2+(3=2)*4"), 2);
        DUE.is("9: + ahead of <", number("1+1<3"), 1);
        DUE.is("9: and", number("(2&3)+(0&2)*2+(2&0)*4+(0&0)*8"), 1);
        DUE.is("9: or", number("(2|0)+(0|2)*2+(3|2)*4+(0|0)*8"), 7);
        DUE.is("9: & ahead of |", number("1|1&0"), 1);
        DUE.is("9: < ahead of &", number("1&2<1"), 0);
        DUE.is("9: alone it stays", number("7"), 7);
        int wrapped = 9999 * 9999 * 9999;
        DUE.is("9: ints wrap", number("9999*9999*9999%13+12"), Math.min(12, wrapped % 13 + 12));
        DUE.is("9: ints wrap", number("9999*9999*9999<0"), wrapped < 0 ? 1 : 0);
        DUE.is("9: the least int by -1", number("(0-8192*8192*32)/-1=8192*8192*32"), 1);
        DUE.is("9: the least int's rest by -1", number("(8192*8192*32)%-1+5"), 5);
        DUE.is("9: six open", number("!-(!-(s))+3"), 4);
        DUE.is("9: closed ones are not open", number("!1+!1+!1+!1+!1+!1+!1+!0"), 1);
        StringBuilder deep = new StringBuilder();
        for (int i = 0; i < 6; i++) deep.append("1|1&0<1+2*(");
        deep.append('5');
        for (int i = 0; i < 6; i++) deep.append(')');
        DUE.is("9: deep", number(deep.toString()), 1);
    }

    private static void lines() {
        DUE.is("9: the first that counts", number("s=1?5;s=3?7;9"), 7);
        DUE.is("9: without a first E", number("s=1?5;4;9"), 4);
        DUE.is("9: none", number("s=1?5;s=2?6"), 0);
        DUE.is("9: a first E of any number", number("-4?6"), 6);
        LastMender x = new LastMender();
        x.person(2, 0);
        x.thing(0, 0);
        DUE.is("9: no text", x.of(0, 19), 1);
        DUE.is("9: law()", Due.law(x, "l?9-a;2"), 1);
        DUE.is("9: without one who is last", x.of(0, 19), 2);
        x.fix(0);
        DUE.is("9: with one who is last", x.of(0, 19), 9);
        Due.law(x, "a?11;0");
        x.years(1, 1);
        DUE.is("9: with an age", x.of(0, 19), 11);
        Due.law(x, "12");
        x.years(1, 2);
        DUE.is("9: worn", x.of(0, 13), 1);
        Due.law(x, "7-2*s");
        DUE.is("9: as without a text", x.of(0, 19), 5);
    }

    private static void fault(String text, int at) {
        DUE.is("9: fault of " + text, Due.law(new LastMender(), text), -100 - at);
    }

    private static void faults() {
        fault("", 0);
        fault(" ", 0);
        fault("s ", 1);
        fault("x", 0);
        fault("S", 0);
        fault("s;", 2);
        fault(";", 0);
        fault("s;;", 2);
        fault("s?", 2);
        fault("s?1?2", 3);
        fault("s?1;2?", 6);
        fault("(s", 2);
        fault("(s?1)", 2);
        fault("(s;1)", 2);
        fault("s)", 1);
        fault("()", 1);
        fault("12345", 4);
        fault("1s", 1);
        fault("s1", 1);
        fault("ss", 1);
        fault("s<t>a", 3);
        fault("s<", 2);
        fault("s+*t", 2);
        fault("s!t", 1);
        fault("((((((1)))))))", 13);
        fault("(((((((1", 6);
        fault("!!!!!!-1", 6);
        fault("((((((-1", 6);
        fault("-(-(-(!1", 6);
        fault("s" + (char) 0, 1);
        fault("s" + (char) 255, 1);
    }

    private static void oldLawStays() {
        LastMender x = new LastMender();
        x.person(2, 0);
        x.thing(0, 0);
        Due.law(x, "9");
        DUE.is("9: fault", Due.law(x, "4+"), -102);
        DUE.is("9: the law stays", x.of(0, 19), 9);
        DUE.is("9: the tape is empty", x.count(4), 0);
    }

    /** A place has a fault if no end, of all that a start could want, makes a text of it. */
    private static void faultsAgainstAllEnds() {
        Random random = new Random(7);
        String signs = "ssta1290+-*/%|&<=>!!((()));?x";
        for (int run = 0; run < 4000; run++) {
            StringBuilder text = new StringBuilder();
            int length = 1 + random.nextInt(12);
            for (int i = 0; i < length; i++) {
                char sign = signs.charAt(random.nextInt(signs.length()));
                text.append(sign);
                // Mostly go on from a start that some text has, so that long ones come too.
                if (random.nextInt(4) != 0 && !starts(text.toString())) text.setLength(text.length() - 1);
            }
            String all = text.toString();
            int due = all.length();
            for (int i = all.length(); i > 0; i--) {
                if (!starts(all.substring(0, i))) due = i - 1;
            }
            boolean whole = due == all.length() && isText(all);
            DUE.is("9: " + all, Due.law(new LastMender(), all), whole ? 1 : -100 - due);
        }
    }

    private static boolean starts(String start) {
        String close = "";
        for (int k = 0; k <= 6; k++) {
            if (isText(start + close) || isText(start + "s" + close)) return true;
            close += ")";
        }
        return false;
    }

    private static boolean isText(String text) {
        for (String line : text.split(";", -1)) {
            int ask = line.indexOf('?');
            boolean is = ask < 0 ? isE(line) : isE(line.substring(0, ask)) && isE(line.substring(ask + 1));
            if (!is) return false;
        }
        return true;
    }

    private static boolean isE(String text) {
        return ends(text, 0, 0, 0).contains(text.length());
    }

    /** All places at which what begins at a place may end, by the grammar's words, level by level. */
    private static TreeSet<Integer> ends(String text, int from, int level, int open) {
        if (level == 5) return endsOfOperand(text, from, open);
        String[] signs = {"|", "&", "<=>", "+-", "*/%"};
        TreeSet<Integer> ends = new TreeSet<>(ends(text, from, level + 1, open));
        TreeSet<Integer> latest = ends;
        for (int i = 0; i < (level == 2 ? 1 : text.length()); i++) {
            TreeSet<Integer> more = new TreeSet<>();
            for (int end : latest) {
                if (end < text.length() && signs[level].indexOf(text.charAt(end)) >= 0) {
                    more.addAll(ends(text, end + 1, level + 1, open));
                }
            }
            if (more.isEmpty()) break;
            ends.addAll(more);
            latest = more;
        }
        return ends;
    }

    private static TreeSet<Integer> endsOfOperand(String text, int from, int open) {
        TreeSet<Integer> ends = new TreeSet<>();
        if (from >= text.length()) return ends;
        char sign = text.charAt(from);
        if ("stal".indexOf(sign) >= 0) ends.add(from + 1);
        for (int i = from; i < from + 4 && i < text.length() && Character.isDigit(text.charAt(i)); i++) ends.add(i + 1);
        if (open == 6) return ends;
        if (sign == '!' || sign == '-') ends.addAll(endsOfOperand(text, from + 1, open + 1));
        if (sign == '(') {
            for (int end : ends(text, from + 1, 0, open + 1)) {
                if (end < text.length() && text.charAt(end) == ')') ends.add(end + 1);
            }
        }
        return ends;
    }
}
