import java.io.IOException;
import java.lang.reflect.InvocationTargetException;
import java.lang.reflect.Method;
import java.nio.file.Files;
import java.nio.file.Path;
import java.util.Arrays;
import java.util.Comparator;
import java.util.HashSet;
import java.util.Set;

/** What the tests of boundary cases share: each of their methods stands for words of the document. */
abstract class Edges {
    static final int BAD = -1, NOT = -2, FULL = -3, STATE = -5, VOID = -2000000000;
    static final int NOTHING_THERE = -11, OTHER_KIND = -12, NO_PLACE = -13, SIZE_BELOW = -14;
    static final int LEAST = Integer.MIN_VALUE, MOST = Integer.MAX_VALUE;
    static final long NO_LONG = Long.MIN_VALUE;

    private static final Path DOCUMENT = Path.of("../shared/DOC.md");
    private static Due due;
    private static String words = "";

    /** Runs each test of a class; one that asks nothing, or whose words the document has not, is wrong. */
    static void run(Class<?> tests) throws IOException, IllegalAccessException {
        due = new Due(tests.getSimpleName());
        String document = Files.isReadable(DOCUMENT) ? Files.readString(DOCUMENT).replaceAll("\\s+", " ") : null;
        Set<String> said = new HashSet<>();
        Method[] all = tests.getDeclaredMethods();
        Arrays.sort(all, Comparator.comparing(Method::getName));
        for (Method test : all) {
            Says says = test.getAnnotation(Says.class);
            if (says == null) continue;
            words = String.join(" .. ", says.value());
            due.is("no other test stands for [" + words + "]", said.add(words) ? 1 : 0, 1);
            for (String part : says.value()) {
                if (document != null) due.is("the document says [" + part + "]", document.contains(part) ? 1 : 0, 1);
            }
            runOne(test);
        }
        due.is("there are tests", said.isEmpty() ? 0 : 1, 1);
        due.end();
    }

    private static void runOne(Method test) throws IllegalAccessException {
        int before = due.asked();
        try {
            test.invoke(null);
        } catch (InvocationTargetException e) {
            due.is(test.getName() + " threw " + e.getCause(), 1, 0);
        }
        due.is(test.getName() + " asks something", due.asked() > before ? 1 : 0, 1);
    }

    static void is(String call, long got, long want) {
        due.is("[" + words + "] " + call, got, want);
    }

    static void is(String call, boolean got) {
        is(call, got ? 1 : 0, 1);
    }

    static void is(String call, boolean got, boolean want) {
        is(call, got ? 1 : 0, want ? 1 : 0);
    }

    static void isFraction(String call, long above, long below, long wantAbove, long wantBelow) {
        is(call + " above", above, wantAbove);
        is(call + " below", below, wantBelow);
    }

    /** People by their SKILLS and FEES in turn. */
    static LastMender people(int... skillsAndFees) {
        LastMender x = new LastMender();
        for (int i = 0; i + 1 < skillsAndFees.length; i += 2) x.person(skillsAndFees[i], skillsAndFees[i + 1]);
        return x;
    }

    static void law(LastMender x, String text) {
        is("law " + text, Due.law(x, text), 1);
    }

    /** Brings a THING of STATE 3 to a STATE, by a year or two in which it alone wears, and wears for sure. */
    static void wear(LastMender x, int thing, int state) {
        law(x, "t=" + thing + "?12;0");
        if (state < 3) x.years(1, 3 - state);
        is("it is worn", x.of(thing, 13), state);
    }

    /** All that is told of people and things, 156 calls. */
    static long[] all(LastMender x) {
        long[] all = new long[160];
        int n = 0;
        for (int what = 0; what < 8; what++) all[n++] = x.count(what);
        for (int p = 0; p < 5; p++) {
            for (int what = 0; what < 6; what++) all[n++] = x.of(p, what);
        }
        for (int t = 0; t < 6; t++) {
            for (int what = 10; what < 20; what++) all[n++] = x.of(t, what);
            for (int i = 0; i < 8; i++) all[n++] = x.layer(t, i);
            all[n++] = x.paid(t);
        }
        return all;
    }

    static void isAll(String call, LastMender x, long[] want) {
        is(call + " changes nothing", Arrays.equals(all(x), want));
    }

    /** What THE TAPE's draws are to be: the z behind so many. */
    static int drawn(int seed, int times) {
        int z = seed;
        for (int i = 0; i < times; i++) z = z * 1103515245 + 12345;
        return (z >>> 8) % 12;
    }
}
