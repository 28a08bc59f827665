/** Counts answers that are not as due, and makes objects out of texts. */
final class Due {
    private static final int PROMISES = 35;
    private static final boolean[] named = new boolean[PROMISES + 1];
    private static int asked = 0;
    private static int wrong = 0;

    private Due() {
    }

    static void is(String what, long got, long want) {
        asked++;
        if (got != want) {
            wrong++;
            System.out.println(what + " answered " + got + ", due is " + want);
        }
    }

    /** An answer that a numbered promise of the document asks for. */
    static void promise(int number, String what, long got, long want) {
        named[number] = true;
        is("promise " + number + ": " + what, got, want);
    }

    static void everyPromiseWasNamed() {
        for (int number = 1; number <= PROMISES; number++) {
            holds("promise " + number + " has a test", named[number]);
        }
    }

    static void holds(String what, boolean so) {
        is(what, so ? 1 : 0, 1);
    }

    static void feed(KissGates x, String text) {
        for (int i = 0; i < text.length(); i++) {
            x.feed(text.charAt(i));
        }
    }

    static KissGates of(String text) {
        KissGates x = new KissGates();
        feed(x, text);
        int answer = x.common();
        holds("a common of '" + text + "'", answer >= 0);
        return x;
    }

    /** An hour at gate 0 for two who WOULD meet. */
    static void meet(KissGates x, int p, int q) {
        x.come(p, 0);
        x.come(q, 0);
        x.hour(1);
    }

    static void end(String test) {
        System.out.println(test + ": " + asked + " answers, " + wrong + " not as due");
        if (wrong != 0 || asked == 0) {
            System.exit(1);
        }
    }
}
