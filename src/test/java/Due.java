/** Counts what was asked and prints every call whose answer is not the one that is due. */
final class Due {
    private final String name;
    private int asked, wrong;

    Due(String name) {
        this.name = name;
    }

    void is(String call, long got, long want) {
        asked++;
        if (got == want) return;
        wrong++;
        System.out.println(name + ": " + call + " answered " + got + ", due is " + want);
    }

    /** Both parts of a fraction. */
    void isFraction(String call, long above, long below, long wantAbove, long wantBelow) {
        is(call + " above", above, wantAbove);
        is(call + " below", below, wantBelow);
    }

    int asked() {
        return asked;
    }

    void end() {
        System.out.println(name + ": " + asked + " asked, " + wrong + " wrong");
        if (wrong != 0 || asked == 0) System.exit(1);
    }

    static int feed(LastMender x, String text) {
        int has = 0;
        for (int i = 0; i < text.length(); i++) has = x.feed(text.charAt(i));
        return has;
    }

    static int law(LastMender x, String text) {
        feed(x, text);
        return x.law();
    }

    /** A row of bytes on a shelf. */
    static void bytes(LastMender x, int shelf, int... of) {
        x.row(shelf, 0, of.length);
        for (int i = 0; i < of.length; i++) x.put(shelf, i, of[i]);
    }
}
