import java.util.Random;

/** Runs of calls, right and wrong ones, on KissGates and on the model next to it: all answers are the same. */
public final class ModelTest {
    private static final int RUNS = 4000;
    private static final int CALLS = 512;
    private static final int[] ODD = {-1000000001, -3, -2, -1, 0, 1, 2, 5, 6, 7, 8, 61, 128, 201, 256,
        Integer.MAX_VALUE, Integer.MIN_VALUE};

    private final Random random;
    private final KissGates x = new KissGates();
    private final Model m = new Model();
    private final StringBuilder trail = new StringBuilder();
    private int calls = 0;
    private boolean wrong = false;

    private ModelTest(long run) {
        random = new Random(run);
    }

    public static void main(String[] args) {
        for (long run = 0; run < RUNS; run++) {
            ModelTest test = new ModelTest(run);
            test.goThrough();
            Due.holds("run " + run + test.trail, !test.wrong);
        }
        Due.end("ModelTest");
    }

    private void goThrough() {
        while (calls < CALLS && !wrong) {
            if (calls == 0 ? random.nextInt(8) != 0 : random.nextInt(250) == 0) {
                feedText(random.nextInt(6) == 0 ? broken(text()) : text());
                same("common()", x.common(), m.common());
                same("fault()", x.fault(), m.fault());
            }
            int kind = random.nextInt(10);
            if (kind < 4) {
                act();
            } else if (kind < 6) {
                look();
            } else if (kind < 8) {
                tryOut();
            } else {
                note();
            }
        }
    }

    private void same(String call, int got, int due) {
        calls++;
        if (trail.length() > 20000) {
            trail.setLength(0);
            trail.append(" ..");
        }
        trail.append(' ').append(call).append('=').append(got);
        if (got != due) {
            wrong = true;
            trail.append(" (due is ").append(due).append(')');
        }
    }

    private void feedText(String text) {
        for (int i = 0; i < text.length(); i++) {
            int letter = text.charAt(i);
            same("feed(" + letter + ")", x.feed(letter), m.feed(letter));
        }
    }

    private String blanks() {
        return random.nextInt(12) == 0 ? " " : "";
    }

    private String text() {
        StringBuilder s = new StringBuilder();
        int gates = random.nextInt(6);
        int persons = random.nextInt(8);
        boolean quick = random.nextBoolean();
        for (int g = 0; g < gates; g++) {
            s.append('g').append(blanks()).append(1 + random.nextInt(quick ? 4 : 99)).append(blanks()).append(';');
        }
        for (int p = 0; p < persons; p++) {
            s.append('p').append(blanks()).append(random.nextInt(2)).append(' ').append(random.nextInt(3) / 2)
                .append(blanks()).append(';');
        }
        int most = 1 + random.nextInt(9);
        int odds = 1 + random.nextInt(4);
        for (int p = 0; p < persons; p++) {
            for (int q = p + 1; q < persons; q++) {
                if (random.nextInt(4) < odds && s.length() < 220) {
                    s.append('l').append(p).append(' ').append(q).append(' ').append(random.nextInt(most + 1)).append(';');
                    s.append('l').append(q).append(' ').append(p).append(blanks()).append(' ')
                        .append(random.nextInt(most + 1)).append(';');
                }
            }
        }
        return s.toString();
    }

    private String broken(String text) {
        StringBuilder s = new StringBuilder(text);
        String letters = "gpl;0123456789 xn\u00e9";
        for (int i = 1 + random.nextInt(3); i > 0; i--) {
            char c = letters.charAt(random.nextInt(letters.length()));
            int at = random.nextInt(s.length() + 1);
            int how = random.nextInt(4);
            if (how == 0 && at < s.length()) {
                s.setCharAt(at, c);
            } else if (how == 1 && at < s.length()) {
                s.deleteCharAt(at);
            } else if (how == 2) {
                s.setLength(at);
            } else {
                s.insert(at, c);
            }
        }
        return s.toString();
    }

    /** Mostly below n, now and then far off. */
    private int some(int n) {
        return random.nextInt(25) == 0 ? ODD[random.nextInt(ODD.length)] : random.nextInt(Math.max(1, n));
    }

    private int somePerson() {
        return some(m.told(1));
    }

    private int someGate() {
        return some(m.told(0));
    }

    private void act() {
        int p = somePerson();
        int g = someGate();
        int n = random.nextInt(3) == 0 ? some(62) : 1;
        switch (random.nextInt(14)) {
            case 0, 1, 2, 3, 4 -> same("come(" + p + ", " + g + ")", x.come(p, g), m.come(p, g));
            case 5, 6 -> same("hour(" + n + ")", x.hour(n), m.hour(n));
            case 7 -> same("goOff(" + p + ")", x.goOff(p), m.goOff(p));
            case 8 -> same("hole(" + p + ")", x.hole(p), m.hole(p));
            case 9, 10 -> same("oil(" + g + ")", x.oil(g), m.oil(g));
            case 11 -> same("well(" + p + ")", x.well(p), m.well(p));
            case 12 -> same("drift(" + n + ")", x.drift(n), m.drift(n));
            default -> same("undo()", x.undo(), m.undo());
        }
    }

    private void look() {
        int p = somePerson();
        int q = somePerson();
        int g = someGate();
        int what = some(14);
        switch (random.nextInt(6)) {
            case 0, 1 -> same("told(" + what + ")", x.told(what), m.told(what));
            case 2 -> same("gate(" + g + ", " + what % 5 + ")", x.gate(g, what % 5), m.gate(g, what % 5));
            case 3 -> same("person(" + p + ", " + what % 5 + ")", x.person(p, what % 5), m.person(p, what % 5));
            case 4 -> same("likes(" + p + ", " + q + ")", x.likes(p, q), m.likes(p, q));
            default -> same("logged(" + what + ")", x.logged(what), m.logged(what));
        }
    }

    private void tryOut() {
        int p = somePerson();
        int set = some(1 << m.told(1));
        int inside = some(1 << m.told(1));
        int n = some(202);
        int days = some(62);
        int odds = some(102);
        switch (random.nextInt(12)) {
            case 0 -> same("atOnce(-1)", x.atOnce(-1), m.atOnce(-1));
            case 1 -> same("atOnce(-2)", x.atOnce(-2), m.atOnce(-2));
            case 2 -> same("atOnce(" + p + ")", x.atOnce(p), m.atOnce(p));
            case 3, 4 -> same("sides(" + set + ", " + inside + ")", x.sides(set, inside), m.sides(set, inside));
            case 5 -> same("steady()", x.steady(), m.steady());
            case 6 -> same("loves(" + (p - 1) + ")", x.loves(p - 1), m.loves(p - 1));
            case 7 -> same("first()", x.first(), m.first());
            case 8 -> same("dies(" + days % 3 + ")", x.dies(days % 3), m.dies(days % 3));
            case 9 -> same("oilFor(" + n + ")", x.oilFor(n), m.oilFor(n));
            case 10 -> same("evening(" + p + ")", x.evening(p), m.evening(p));
            default -> same("dry(" + days + ", " + odds + ")", x.dry(days, odds), m.dry(days, odds));
        }
    }

    private void note() {
        int p = somePerson();
        boolean is = random.nextBoolean();
        int inside = some(2);
        int v = random.nextInt();
        int i = some(2);
        switch (random.nextInt(13)) {
            case 0, 1 -> same("ill(" + p + ", " + is + ")", x.ill(p, is), m.ill(p, is));
            case 2, 3 -> same("mayBe()", x.mayBe(), m.mayBe());
            case 4, 5 -> same("ask()", x.ask(), m.ask());
            case 6, 7 -> same("write(" + p + ", " + inside + ")", x.write(p, inside), m.write(p, inside));
            case 8 -> {
                if (random.nextInt(4) == 0) {
                    same("tear()", x.tear(), m.tear());
                }
            }
            case 9 -> same("judge()", x.judge(), m.judge());
            case 10 -> same("seed(" + v + ")", x.seed(v), m.seed(v));
            case 11 -> {
                if (random.nextInt(3) == 0) {
                    same("keep(" + i + ")", x.keep(i), m.keep(i));
                }
            }
            default -> {
                if (random.nextInt(3) == 0) {
                    same("goBack(" + i + ")", x.goBack(i), m.goBack(i));
                }
            }
        }
    }
}
