import java.lang.reflect.InvocationTargetException;
import java.lang.reflect.Method;
import java.lang.reflect.Modifier;
import java.util.ArrayList;
import java.util.Arrays;
import java.util.HashMap;
import java.util.List;
import java.util.Map;
import java.util.Random;

/** Random runs of all calls, each asked of the class and of the document told once more (WholeModel). */
public final class WholeModelTest {
    private static final Due DUE = new Due("WholeModelTest");
    /** A call and what it is mostly asked with: least..most, 10 of the one and the other (x), or any int. */
    private static final String[] CALLS = {
        "person 1..3 0..20", "person 1..3 0..99", "thing 0..4 0..9999", "thing 0..2 0..4000",
        "things 0..5 0..12 1..6", "rule 0..0 0..9", "rule 1..1 0..1", "mend 0..4 0..0 1..3", "mend 0..4 1..1 0..20",
        "mend 0..4 1..1 0..99", "mend 0..4 2..2 0..4", "mend 0..4 2..2 4..4", "mend 0..5 3..4 0..99",
        "mend 0..5 5..5 0..5", "of 0..4 0..5", "of 0..5 10..19", "feed 0..255", "feed 40..64", "law", "text",
        "text", "fix 0..5x0..4", "fix 0..5x0..4", "years any 1..30", "years any 1..4", "paid 0..5",
        "layer 0..5 0..7", "told 0..5 0..5", "over 0..4x0..4", "worth 0..5x0..6 0..1 0..1", "now 0..5x0..6 0..2",
        "smith 0..5x0..6 0..4 0..1 0..1", "gift 0..5x0..6 0..4 0..1", "debts 0..4x0..6 0..1",
        "ruled any 1..20 0..1", "ruined any -999..0 0..1", "ruined any -120..0 0..1", "image", "back", "undo",
        "redo", "unravel", "body 0..7", "act 0..49 0..3 any", "act 0..6 0..3 any", "trace 0..23", "keep 0..5 -1..6",
        "row 0..5 0..4 0..60", "row 0..5 0..0 0..20", "row 0..5 0..4 0..9", "put 0..5 0..20 0..9",
        "put 0..5 0..20 any", "element 0..5 0..20", "shift 0..5 0..9 0..5 0..9 0..9", "taken 0..5 0..7",
        "count 0..7", "threes", "nails"};
    /** Calls that come far more often in one run in so many; in the first all come alike. */
    private static final String[] OFTEN = {"", "mend undo redo unravel", "body act", "act trace keep taken", "text of",
        "over fix layer", "ruled years rule fix mend", "worth now smith gift debts fix years", "feed",
        "ruined fix years mend", "row put shift element", "threes nails told fix"};
    private static final int[] WILD = {Integer.MIN_VALUE, Integer.MAX_VALUE, -100, -11, -10, 61, 100, 1000, 100000};

    private static final Map<String, Method> OF_CLASS = callsOf(LastMender.class), OF_MODEL = callsOf(WholeModel.class);

    private final LastMender x = new LastMender();
    private final WholeModel model = new WholeModel();
    private final int seed;
    private final Random random;
    private int asked;

    private WholeModelTest(int seed) {
        this.seed = seed;
        random = new Random(seed * 0x9E3779B97F4A7C15L);
    }

    public static void main(String[] args) {
        theWholeFace();
        int runs = args.length > 0 ? Integer.parseInt(args[0]) : 900;
        for (int seed = 0; seed < runs; seed++) new WholeModelTest(seed).run();
        DUE.end();
    }

    private static void theWholeFace() {
        DUE.is("the model has the same calls", OF_MODEL.keySet().equals(OF_CLASS.keySet()) ? 1 : 0, 1);
        for (String name : OF_CLASS.keySet()) {
            long lines = Arrays.stream(CALLS).filter(c -> c.split(" ")[0].equals(name)).count();
            DUE.is(name + " is asked", lines > 0 ? 1 : 0, 1);
        }
    }

    /** Some 260 calls of any kind; with what a text or a look at all takes they stay under 512. */
    private void run() {
        for (int i = random.nextInt(4); i > 0; i--) any("person 1..3 0..30");
        for (int i = random.nextInt(5); i > 0; i--) any("thing 0..2 0..9999");
        List<String> names = Arrays.asList(OFTEN[seed % OFTEN.length].split(" "));
        List<String> all = Arrays.asList(CALLS), often = new ArrayList<>(all);
        often.removeIf(call -> !names.contains(call.split(" ")[0]));
        while (asked < 260) {
            List<String> from = often.isEmpty() || random.nextInt(5) == 0 ? all : often;
            any(from.get(random.nextInt(from.size())));
        }
        lookAtAll();
    }

    private void any(String call) {
        switch (call) {
            case "text": text(); return;
            case "threes": threes(); return;
            case "nails": nails(); return;
            case "unravel": unravel(); return;
            default:
        }
        String[] parts = call.split(" ");
        long[] with = new long[parts.length - 1];
        for (int i = 0; i < with.length; i++) with[i] = argument(parts[i + 1]);
        ask(parts[0], with);
    }

    private long argument(String told) {
        if (told.equals("any")) return random.nextInt(3) == 0 ? random.nextInt(10) : random.nextInt();
        if (random.nextInt(50) == 0) return WILD[random.nextInt(WILD.length)];
        int tens = told.indexOf('x');
        if (tens > 0) return 10 * argument(told.substring(0, tens)) + argument(told.substring(tens + 1));
        int least = Integer.parseInt(told.substring(0, told.indexOf('.')));
        int most = Integer.parseInt(told.substring(told.lastIndexOf('.') + 1));
        int edge = random.nextInt(40);
        return edge == 0 ? least - 1 : edge == 1 ? most + 1 : least + random.nextInt(most - least + 1);
    }

    private void ask(String name, long... with) {
        asked++;
        String call = "run " + seed + ", call " + asked + ": " + name + Arrays.toString(with);
        DUE.is(call, answer(OF_CLASS.get(name), x, with), answer(OF_MODEL.get(name), model, with));
    }

    /** The calls of the face, each by its name and the class that answers. */
    private static Map<String, Method> callsOf(Class<?> c) {
        Map<String, Method> calls = new HashMap<>();
        for (Method m : c.getDeclaredMethods()) {
            if (Modifier.isPublic(m.getModifiers())) calls.put(m.getName(), m);
        }
        return calls;
    }

    private static long answer(Method m, Object whose, long... with) {
        Object[] all = new Object[with.length];
        for (int i = 0; i < all.length; i++) {
            all[i] = m.getParameterTypes()[i] == long.class ? (Object) with[i] : (Object) (int) with[i];
        }
        try {
            return ((Number) m.invoke(whose, all)).longValue();
        } catch (InvocationTargetException | IllegalAccessException e) {
            throw new IllegalStateException(m + Arrays.toString(with), e);
        }
    }

    /** A text with which mostly a text goes on at each place, or which is one. */
    private void text() {
        StringBuilder text = new StringBuilder();
        int most = 1 + random.nextInt(50), careful = random.nextInt(3) == 0 ? 4 : 1000;
        String signs = random.nextInt(3) == 0 ? "(!-(!-stal19)" : "sstal0123459;?|&<=>+-*/%!()";
        for (int i = 0; i < 200 && text.length() < most; i++) {
            text.append(signs.charAt(random.nextInt(signs.length())));
            int fault = fault(text);
            if (fault >= 0 && fault < text.length() && random.nextInt(careful) > 0) text.setLength(fault);
        }
        if (random.nextInt(5) > 0) finish(text);
        for (int i = 0; i < text.length(); i++) ask("feed", text.charAt(i));
        ask("law");
        for (int t = 0; t < 3; t++) ask("of", t, 19);
    }

    private static int fault(StringBuilder text) {
        return WholeModel.fault(text.toString());
    }

    private static void finish(StringBuilder text) {
        for (int i = 0; i < 9 && fault(text) >= 0; i++) {
            if (fault(text) < text.length()) text.setLength(fault(text));
            String ends = text.toString();
            text.append('s');
            if (fault(text) == ends.length()) text.setCharAt(ends.length(), ')');
        }
    }

    /** A row that things can come from. */
    private void threes() {
        int shelf = random.nextInt(6), size = random.nextInt(20);
        ask("row", shelf, 0, size);
        for (int i = 0; i < size; i++) {
            int v = i % 3 == 0 ? random.nextInt(3) : random.nextInt(100);
            if (random.nextInt(30) == 0) v = random.nextBoolean() ? 100 : -1;
            ask("put", shelf, i, v);
        }
        ask("things", shelf, 3 * random.nextInt(3), 1 + random.nextInt(6));
    }

    /** A row much as the nails of a thing. */
    private void nails() {
        int shelf = random.nextInt(6), thing = random.nextInt(6);
        int has = Math.max(0, model.of(thing, 18)), size = Math.max(0, has + random.nextInt(8) / 3 - 1);
        ask("row", shelf, 0, size);
        for (int i = 0; i < size; i++) {
            ask("put", shelf, i, random.nextInt(20) == 0 ? random.nextInt(5) : Math.max(0, model.layer(thing, i)));
        }
        ask("told", shelf, thing);
    }

    /** Many changes undone, some of them done again. */
    private void unravel() {
        int undone = random.nextInt(46), again = random.nextInt(undone + 1);
        for (int i = 0; i < undone; i++) ask("undo");
        for (int i = 0; i < again; i++) ask("redo");
        for (int what = 0; what < 3; what++) ask("of", random.nextInt(5), what);
    }

    private void lookAtAll() {
        for (int what = 0; what < 8; what++) ask("count", what);
        for (int p = 0; p < 5; p++) {
            for (int what = 0; what < 6; what++) ask("of", p, what);
        }
        for (int t = 0; t < 6; t++) {
            for (int what = 10; what < 20; what++) ask("of", t, what);
            for (int i = 0; i < 8; i++) ask("layer", t, i);
            ask("paid", t);
        }
        DUE.is("run " + seed + " stays under 512 calls", asked < 512 ? 1 : asked, 1);
    }
}
