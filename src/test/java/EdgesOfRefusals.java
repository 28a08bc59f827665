import java.util.List;
import java.util.function.Supplier;
import java.util.function.ToIntFunction;

/** The terms on REFUSALS: what is refused changes nothing; what is tried or read changes nothing either. */
final class EdgesOfRefusals implements Answers {
    private static final String TEXT = "g3;g6;p0 0;p1 1;p0 0;p1 0;l0 1 4;l1 0 4;l2 3 5;l3 2 1;";

    private EdgesOfRefusals() {
    }

    static void all() {
        readingIsRefused();
        deedsAreRefused();
        trialsAreRefused();
        notesAreRefused();
        withNoGates();
        withNothingDone();
        withHoursAbove9000();
        withAFullText();
        aFaultChangesNothing();
        readingAndTryingChangeNothing();
        extremesAreAnswered();
    }

    /** Gate 0 is rusted, 3 waits at gate 1, 0 and 1 met; both images, 20 to undo, 6 known, 15 written. */
    private static KissGates crowded() {
        KissGates x = Due.of(TEXT);
        x.seed(77);
        x.keep(0);
        x.come(0, 0);
        x.come(1, 0);
        x.hour(1);
        x.seed(78);
        x.keep(1);
        x.hole(2);
        x.come(3, 1);
        x.hour(3);
        for (int i = 0; i < 9; i++) {
            x.come(0, 1);
            x.goOff(0);
        }
        for (int i = 0; i < 6; i++) {
            x.ill(i % 4, i % 4 < 2);
        }
        for (int i = 0; i < 15; i++) {
            x.write(i % 4, 1);
        }
        x.seed(79);
        return x;
    }

    private static void leaves(int promise, String call, Supplier<KissGates> made, ToIntFunction<KissGates> what, int due) {
        KissGates x = made.get();
        KissGates y = made.get();
        Due.promise(promise, call, what.applyAsInt(x), due);
        boolean same = Whole.seen(x).equals(Whole.seen(y)) && Whole.behind(x).equals(Whole.behind(y));
        Due.promise(promise, call + " changes nothing", same ? 1 : 0, 1);
    }

    private static void refused(int promise, String call, ToIntFunction<KissGates> what, int due) {
        leaves(promise, call, EdgesOfRefusals::crowded, what, due);
    }

    private static void readingIsRefused() {
        KissGates x = crowded();
        Due.is("crowded: rusted", x.told(9), 1);
        Due.is("crowded: who waits", x.told(8), 8);
        Due.is("crowded: to undo", x.told(13), 20);
        Due.is("crowded: known", x.told(11), 6);
        Due.is("crowded: written", x.told(12), 15);
        refused(2, "feed(-1)", k -> k.feed(-1), OUTSIDE);
        refused(2, "feed(256)", k -> k.feed(256), OUTSIDE);
        refused(5, "told(14)", k -> k.told(14), OUTSIDE);
        refused(6, "gate(2, 0)", k -> k.gate(2, 0), UNKNOWN);
        refused(6, "gate(2, 4)", k -> k.gate(2, 4), UNKNOWN);
        refused(6, "gate(1, 4)", k -> k.gate(1, 4), OUTSIDE);
        refused(7, "person(4, 0)", k -> k.person(4, 0), UNKNOWN);
        refused(7, "person(4, 4)", k -> k.person(4, 4), UNKNOWN);
        refused(7, "person(3, 4)", k -> k.person(3, 4), OUTSIDE);
        refused(8, "likes(3, 3)", k -> k.likes(3, 3), UNKNOWN);
        refused(8, "likes(3, 4)", k -> k.likes(3, 4), UNKNOWN);
        refused(9, "logged(1)", k -> k.logged(1), NONE);
    }

    private static void deedsAreRefused() {
        for (int n : new int[] {LEAST, -1, 0, 61, MOST}) {
            refused(10, "hour(" + n + ")", k -> k.hour(n), OUTSIDE);
            refused(16, "drift(" + n + ")", k -> k.drift(n), OUTSIDE);
        }
        for (int p : new int[] {LEAST, -1, 4, MOST}) {
            refused(11, "come(" + p + ", 0)", k -> k.come(p, 0), UNKNOWN);
            refused(11, "come(" + p + ", 1)", k -> k.come(p, 1), UNKNOWN);
            refused(12, "goOff(" + p + ")", k -> k.goOff(p), UNKNOWN);
            refused(13, "hole(" + p + ")", k -> k.hole(p), UNKNOWN);
            refused(15, "well(" + p + ")", k -> k.well(p), UNKNOWN);
        }
        for (int g : new int[] {LEAST, -1, 2, MOST}) {
            refused(11, "come(0, " + g + ")", k -> k.come(0, g), UNKNOWN);
            refused(14, "oil(" + g + ")", k -> k.oil(g), UNKNOWN);
        }
        refused(11, "come(0, 0) to a RUSTED one", k -> k.come(0, 0), NOT);
        refused(11, "come(3, 0) to a RUSTED one", k -> k.come(3, 0), NOT);
        refused(11, "come(3, 1) where it WAITS", k -> k.come(3, 1), NOT);
        refused(12, "goOff(0) from none", k -> k.goOff(0), NOT);
        refused(13, "hole(3) that WAITS", k -> k.hole(3), NOT);
    }

    private static void trialsAreRefused() {
        refused(18, "atOnce(4)", k -> k.atOnce(4), UNKNOWN);
        refused(18, "atOnce(-3)", k -> k.atOnce(-3), UNKNOWN);
        refused(19, "sides(16, 0)", k -> k.sides(16, 0), UNKNOWN);
        refused(19, "sides(0, 16)", k -> k.sides(0, 16), UNKNOWN);
        refused(19, "sides(-1, -1)", k -> k.sides(-1, -1), UNKNOWN);
        refused(23, "dies(2)", k -> k.dies(2), OUTSIDE);
        refused(24, "oilFor(201)", k -> k.oilFor(201), OUTSIDE);
        refused(25, "evening(4)", k -> k.evening(4), UNKNOWN);
        refused(25, "evening(0)", k -> k.evening(0), NOT);
        refused(26, "dry(61, 0)", k -> k.dry(61, 0), OUTSIDE);
    }

    private static void notesAreRefused() {
        refused(27, "ill(4, true), FULL too", k -> k.ill(4, true), UNKNOWN);
        refused(27, "ill(0, true)", k -> k.ill(0, true), FULL);
        refused(27, "ill(0, false)", k -> k.ill(0, false), FULL);
        refused(30, "write(4, 2), FULL too", k -> k.write(4, 2), UNKNOWN);
        refused(30, "write(0, 2), FULL too", k -> k.write(0, 2), OUTSIDE);
        refused(30, "write(0, -1), FULL too", k -> k.write(0, -1), OUTSIDE);
        refused(30, "write(0, 0)", k -> k.write(0, 0), FULL);
        refused(30, "write(3, 1)", k -> k.write(3, 1), FULL);
        refused(33, "seed(-1)", k -> k.seed(-1), OUTSIDE);
        for (int i : new int[] {LEAST, -1, 2, MOST}) {
            refused(34, "keep(" + i + ")", k -> k.keep(i), UNKNOWN);
            refused(35, "goBack(" + i + ")", k -> k.goBack(i), UNKNOWN);
        }
        leaves(27, "ill(4, false), not FULL", EdgesOfRefusals::quiet, k -> k.ill(4, false), UNKNOWN);
        leaves(30, "write(4, 0), not FULL", EdgesOfRefusals::quiet, k -> k.write(4, 0), UNKNOWN);
        leaves(30, "write(0, 2), not FULL", EdgesOfRefusals::quiet, k -> k.write(0, 2), OUTSIDE);
    }

    /** Something known, something written, nothing to undo, no image. */
    private static KissGates quiet() {
        KissGates x = Due.of(TEXT);
        x.ill(1, true);
        x.write(1, 0);
        x.seed(5);
        return x;
    }

    private static KissGates withoutGates() {
        KissGates x = Due.of("p0 0;p1 1;l0 1 1;l1 0 1;");
        x.hole(0);
        x.seed(5);
        return x;
    }

    private static void withNoGates() {
        for (int n : new int[] {1, 60}) {
            leaves(10, "no GATES: hour(" + n + ")", EdgesOfRefusals::withoutGates, k -> k.hour(n), NOT);
            leaves(16, "no GATES: drift(" + n + ")", EdgesOfRefusals::withoutGates, k -> k.drift(n), NOT);
        }
        for (int n : new int[] {0, 61}) {
            leaves(10, "no GATES: hour(" + n + ")", EdgesOfRefusals::withoutGates, k -> k.hour(n), OUTSIDE);
            leaves(16, "no GATES: drift(" + n + ")", EdgesOfRefusals::withoutGates, k -> k.drift(n), OUTSIDE);
        }
        leaves(11, "no GATES: come(0, 0)", EdgesOfRefusals::withoutGates, k -> k.come(0, 0), UNKNOWN);
        leaves(14, "no GATES: oil(0)", EdgesOfRefusals::withoutGates, k -> k.oil(0), UNKNOWN);
    }

    private static void withNothingDone() {
        leaves(17, "undo() of nothing", EdgesOfRefusals::quiet, k -> k.undo(), NOT);
        leaves(35, "goBack(0) not kept", EdgesOfRefusals::quiet, k -> k.goBack(0), NOT);
        leaves(35, "goBack(1) not kept", EdgesOfRefusals::quiet, k -> k.goBack(1), NOT);
    }

    private static KissGates late() {
        KissGates x = Due.of("g9;p0 0;p1 0;");
        for (int i = 0; i < 150; i++) {
            x.hour(60);
        }
        x.hour(1);
        x.seed(5);
        return x;
    }

    private static void withHoursAbove9000() {
        for (int n : new int[] {1, 60}) {
            leaves(10, "at 9001: hour(" + n + ")", EdgesOfRefusals::late, k -> k.hour(n), FULL);
            leaves(16, "at 9001: drift(" + n + ")", EdgesOfRefusals::late, k -> k.drift(n), FULL);
        }
        leaves(10, "at 9001: hour(61)", EdgesOfRefusals::late, k -> k.hour(61), OUTSIDE);
        leaves(16, "at 9001: drift(0)", EdgesOfRefusals::late, k -> k.drift(0), OUTSIDE);
    }

    private static KissGates fed() {
        KissGates x = Due.of("g9;p0 0;");
        x.hole(0);
        Due.feed(x, "g9;" + " ".repeat(237));
        return x;
    }

    private static void withAFullText() {
        leaves(2, "feed(32) of letter 241", EdgesOfRefusals::fed, k -> k.feed(32), FULL);
        leaves(2, "feed(120) of letter 241", EdgesOfRefusals::fed, k -> k.feed(120), FULL);
        leaves(2, "feed(256) of letter 241", EdgesOfRefusals::fed, k -> k.feed(256), OUTSIDE);
        KissGates x = fed();
        x.feed('x');
        Due.promise(3, "the text is as it was", x.common(), 0);
        Due.promise(5, "its gate", x.told(0), 1);
    }

    private static int commonOf(KissGates x, String text) {
        Due.feed(x, text);
        return x.common();
    }

    private static void aFaultChangesNothing() {
        refused(3, "common() of FAULT 1", k -> commonOf(k, "g1;p0 0;x"), -11);
        refused(3, "common() of FAULT 1 at the end", k -> commonOf(k, "g1;p0 0;l"), -11);
        refused(3, "common() of FAULT 2", k -> commonOf(k, "p1 1;p1 1;l0 1 9;l1 0 9;g0;"), -12);
        refused(3, "common() of FAULT 3", k -> commonOf(k, "g1;g1;g1;g1;g1;g1;"), -13);
        refused(3, "common() of FAULT 4", k -> commonOf(k, "p1 1;p0 0;l1 1 1;"), -14);
    }

    private static int readAll(KissGates x) {
        x.fault();
        for (int what = 0; what <= 13; what++) {
            x.told(what);
        }
        for (int p = -2; p < 4; p++) {
            x.gate(p % 2, 1);
            x.person(p, 3);
            x.likes(p, 1);
            x.logged(p);
            x.atOnce(p);
            x.loves(p);
            x.dies(p);
            x.evening(p);
        }
        x.sides(15, 9);
        x.sides(15, 15);
        x.steady();
        x.first();
        x.oilFor(200);
        x.dry(60, 33);
        x.mayBe();
        x.ask();
        return x.judge();
    }

    private static void readingAndTryingChangeNothing() {
        int[] promises = {4, 5, 6, 7, 8, 9, 18, 19, 20, 21, 22, 23, 24, 25, 26, 28, 29, 32};
        KissGates x = crowded();
        KissGates y = crowded();
        readAll(x);
        List<Integer> seen = Whole.seen(y);
        boolean same = Whole.seen(x).equals(seen) && Whole.behind(x).equals(Whole.behind(y));
        for (int promise : promises) {
            Due.promise(promise, "reading and trying change nothing", same ? 1 : 0, 1);
        }
    }

    /** No call throws, whatever its arguments; the answers are those of the bounds. */
    private static void extremesAreAnswered() {
        for (int a : new int[] {LEAST, LEAST + 1, -1000000001, 1000000000, MOST - 1, MOST}) {
            for (Supplier<KissGates> made : List.<Supplier<KissGates>>of(KissGates::new, EdgesOfRefusals::crowded)) {
                KissGates x = made.get();
                boolean common = x.told(0) > 0;
                Due.promise(2, "feed(" + a + ")", x.feed(a), OUTSIDE);
                Due.promise(5, "told(" + a + ")", x.told(a), OUTSIDE);
                Due.promise(6, "gate(" + a + ", " + a + ")", x.gate(a, a), UNKNOWN);
                Due.promise(6, "gate(0, " + a + ")", x.gate(0, a), common ? OUTSIDE : UNKNOWN);
                Due.promise(7, "person(" + a + ", " + a + ")", x.person(a, a), UNKNOWN);
                Due.promise(7, "person(0, " + a + ")", x.person(0, a), common ? OUTSIDE : UNKNOWN);
                Due.promise(8, "likes(" + a + ", " + a + ")", x.likes(a, a), UNKNOWN);
                Due.promise(9, "logged(" + a + ")", x.logged(a), NONE);
                Due.promise(10, "hour(" + a + ")", x.hour(a), OUTSIDE);
                Due.promise(11, "come(" + a + ", " + a + ")", x.come(a, a), UNKNOWN);
                Due.promise(12, "goOff(" + a + ")", x.goOff(a), UNKNOWN);
                Due.promise(13, "hole(" + a + ")", x.hole(a), UNKNOWN);
                Due.promise(14, "oil(" + a + ")", x.oil(a), UNKNOWN);
                Due.promise(15, "well(" + a + ")", x.well(a), UNKNOWN);
                Due.promise(16, "drift(" + a + ")", x.drift(a), OUTSIDE);
                Due.promise(18, "atOnce(" + a + ")", x.atOnce(a), UNKNOWN);
                Due.promise(19, "sides(" + a + ", " + a + ")", x.sides(a, a), UNKNOWN);
                Due.promise(21, "loves(" + a + ")", x.loves(a), NONE);
                Due.promise(23, "dies(" + a + ")", x.dies(a), OUTSIDE);
                Due.promise(24, "oilFor(" + a + ")", x.oilFor(a), OUTSIDE);
                Due.promise(25, "evening(" + a + ")", x.evening(a), UNKNOWN);
                Due.promise(26, "dry(" + a + ", " + a + ")", x.dry(a, a), OUTSIDE);
                Due.promise(27, "ill(" + a + ", true)", x.ill(a, true), UNKNOWN);
                Due.promise(30, "write(" + a + ", " + a + ")", x.write(a, a), UNKNOWN);
                Due.promise(34, "keep(" + a + ")", x.keep(a), UNKNOWN);
                Due.promise(35, "goBack(" + a + ")", x.goBack(a), UNKNOWN);
            }
        }
    }
}
