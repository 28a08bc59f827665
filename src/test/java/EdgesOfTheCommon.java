/** Promises 1, 3 and 5 to 9: no COMMON, a new one, and what is told of gates, persons, THE LOG. */
final class EdgesOfTheCommon implements Answers {
    private static final String ALL_GATES_AND_PERSONS = "g1;g2;g3;g4;g99;p0 0;p1 0;p0 1;p1 1;p0 0;p0 0;p1 1;";

    private EdgesOfTheCommon() {
    }

    static void all() {
        noCommonAtFirst();
        noCommonByAnEmptyText();
        aNewCommonBeginsAnew();
        aCommonOfTheSameTextBeginsAnew();
        nothingIsLeftOfEarlierTexts();
        toldFrom0To13();
        toldSetsWithNobodyAndWithAll();
        gatesFrom0ToTheLast();
        gateWhatFrom0To3();
        gateHoursAreRAtMost();
        personsFrom0ToTheLast();
        personWhatFrom0To3();
        wouldMeetBy1OrMore();
        wouldMeetAcrossAlone();
        likesOfUnlikePersons();
        logKeepsTheLatestTwenty();
    }

    /** Every call that does not change THE TEXT, with the seed that is due. */
    private static void isNoCommon(int promise, String when, KissGates x, int seed) {
        for (int what = 0; what <= 13; what++) {
            Due.promise(promise, when + "told(" + what + ")", x.told(what), 0);
        }
        Due.promise(promise, when + "fault()", x.fault(), NONE);
        Due.promise(promise, when + "gate(0, 0)", x.gate(0, 0), UNKNOWN);
        Due.promise(promise, when + "person(0, 0)", x.person(0, 0), UNKNOWN);
        Due.promise(promise, when + "likes(0, 1)", x.likes(0, 1), UNKNOWN);
        Due.promise(promise, when + "logged(0)", x.logged(0), NONE);
        Due.promise(promise, when + "hour(1)", x.hour(1), NOT);
        Due.promise(promise, when + "come(0, 0)", x.come(0, 0), UNKNOWN);
        Due.promise(promise, when + "goOff(0)", x.goOff(0), UNKNOWN);
        Due.promise(promise, when + "hole(0)", x.hole(0), UNKNOWN);
        Due.promise(promise, when + "oil(0)", x.oil(0), UNKNOWN);
        Due.promise(promise, when + "well(0)", x.well(0), UNKNOWN);
        Due.promise(promise, when + "drift(1)", x.drift(1), NOT);
        Due.promise(promise, when + "undo()", x.undo(), NOT);
        isNothingTried(promise, when, x);
        isNothingNoted(promise, when, x);
        Due.promise(promise, when + "goBack(0)", x.goBack(0), NOT);
        Due.promise(promise, when + "goBack(1)", x.goBack(1), NOT);
        Due.promise(promise, when + "THE SEED", x.seed(3), seed);
        Due.promise(promise, when + "keep(1)", x.keep(1), 1);
        x.seed(4);
        Due.promise(promise, when + "goBack(0) still", x.goBack(0), NOT);
        Due.promise(promise, when + "goBack(1) of what was kept", x.goBack(1), 1);
        Due.promise(promise, when + "THE SEED that was kept", x.seed(0), 3);
        Due.promise(promise, when + "feed(32)", x.feed(32), 1);
    }

    private static void isNothingTried(int promise, String when, KissGates x) {
        Due.promise(promise, when + "atOnce(-1)", x.atOnce(-1), 0);
        Due.promise(promise, when + "atOnce(-2)", x.atOnce(-2), 0);
        Due.promise(promise, when + "atOnce(0)", x.atOnce(0), UNKNOWN);
        Due.promise(promise, when + "sides(0, 0)", x.sides(0, 0), 0);
        Due.promise(promise, when + "sides(1, 0)", x.sides(1, 0), UNKNOWN);
        Due.promise(promise, when + "sides(0, 1)", x.sides(0, 1), UNKNOWN);
        Due.promise(promise, when + "steady()", x.steady(), 1);
        Due.promise(promise, when + "loves(-1)", x.loves(-1), 0);
        Due.promise(promise, when + "loves(0)", x.loves(0), NONE);
        Due.promise(promise, when + "first()", x.first(), 0);
        Due.promise(promise, when + "dies(0)", x.dies(0), NONE);
        Due.promise(promise, when + "dies(1)", x.dies(1), NONE);
        Due.promise(promise, when + "oilFor(0)", x.oilFor(0), 0);
        Due.promise(promise, when + "oilFor(200)", x.oilFor(200), 0);
        Due.promise(promise, when + "evening(0)", x.evening(0), UNKNOWN);
        Due.promise(promise, when + "dry(1, 1)", x.dry(1, 1), 990000000);
    }

    private static void isNothingNoted(int promise, String when, KissGates x) {
        Due.promise(promise, when + "ill(0, true)", x.ill(0, true), UNKNOWN);
        Due.promise(promise, when + "mayBe()", x.mayBe(), 0);
        Due.promise(promise, when + "ask()", x.ask(), NONE);
        Due.promise(promise, when + "write(0, 0)", x.write(0, 0), UNKNOWN);
        Due.promise(promise, when + "tear()", x.tear(), 0);
        Due.promise(promise, when + "judge()", x.judge(), NONE);
    }

    private static void noCommonAtFirst() {
        isNoCommon(1, "new: ", new KissGates(), 0);
    }

    /** A gate rusted, one waits, two met, a hole, both images, something known, a book, something to undo. */
    private static KissGates used() {
        KissGates x = Due.of("g2;g9;p1 1;p0 0;p0 0;l0 1 3;l1 0 3;");
        x.seed(77);
        x.keep(0);
        x.come(0, 1);
        x.come(1, 1);
        x.hour(2);
        x.keep(1);
        x.hole(0);
        x.come(2, 1);
        x.ill(1, false);
        x.write(1, 0);
        Due.is("rusted", x.told(9), 1);
        Due.is("met", x.told(4), 1);
        Due.is("wrong in THE BOOK", x.judge(), 0);
        return x;
    }

    private static void noCommonByAnEmptyText() {
        KissGates x = used();
        Due.promise(3, "common() of an empty text", x.common(), 0);
        isNoCommon(3, "an empty text: ", x, 77);
        KissGates blank = used();
        Due.feed(blank, " ");
        Due.promise(3, "common() of a blank", blank.common(), 0);
        isNoCommon(3, "a blank: ", blank, 77);
    }

    private static void beginsAnew(KissGates x, int gates, int persons, int inside, int colds) {
        int[] due = {gates, persons, 0, 0, 0, 0, inside, colds, 0, 0, 0, 0, 0, 0};
        for (int what = 0; what < due.length; what++) {
            Due.promise(3, "anew: told(" + what + ")", x.told(what), due[what]);
        }
        for (int g = 0; g < gates; g++) {
            Due.promise(3, "anew: hours since gate " + g + " was used", x.gate(g, 1), 0);
            Due.promise(3, "anew: gate " + g + " is not rusted", x.gate(g, 2), 0);
            Due.promise(3, "anew: nobody waits at gate " + g, x.gate(g, 3), 0);
        }
        for (int p = 0; p < persons; p++) {
            Due.promise(3, "anew: " + p + " waits at none", x.person(p, 1), NONE);
        }
        Due.promise(3, "anew: gate " + gates, x.gate(gates, 0), UNKNOWN);
        Due.promise(3, "anew: person " + persons, x.person(persons, 0), UNKNOWN);
        Due.promise(3, "anew: THE LOG", x.logged(0), NONE);
        Due.promise(3, "anew: nothing known", x.mayBe(), (1 << persons) - 1);
        Due.promise(3, "anew: no BOOK", x.judge(), NONE);
        Due.promise(3, "anew: nothing to undo", x.undo(), NOT);
        Due.promise(3, "anew: IMAGE 0 is gone", x.goBack(0), NOT);
        Due.promise(3, "anew: IMAGE 1 is gone", x.goBack(1), NOT);
        Due.promise(3, "anew: THE SEED stays", x.seed(0), 77);
    }

    private static void aNewCommonBeginsAnew() {
        KissGates x = used();
        Due.feed(x, "g1;p1 0;p0 1;");
        Due.promise(3, "another common()", x.common(), 2);
        beginsAnew(x, 1, 2, 1, 2);
        Due.promise(3, "anew: who liked each other", x.likes(0, 1), 0);
        Due.promise(3, "anew: who WOULD meet", x.person(0, 3), 0);
    }

    private static void aCommonOfTheSameTextBeginsAnew() {
        KissGates x = used();
        Due.feed(x, "g2;g9;p1 1;p0 0;p0 0;l0 1 3;l1 0 3;");
        Due.promise(3, "the same common()", x.common(), 3);
        beginsAnew(x, 2, 3, 1, 1);
    }

    private static void nothingIsLeftOfEarlierTexts() {
        String much = "g9;g9;p1 1;p1 1;p0 0;l0 2 5;l2 0 5;l0 1 5;";
        for (String between : new String[] {"", "g1;", much, "x", much + "x", much + much}) {
            KissGates x = Due.of(much);
            Due.feed(x, between);
            x.common();
            Due.feed(x, "g7;p0 0;p0 0;p1 0;l2 0 1;l0 1 2;");
            Due.promise(3, "common() behind '" + between + "'", x.common(), 3);
            Due.promise(5, "told(0) behind '" + between + "'", x.told(0), 1);
            Due.promise(6, "gate(0, 0) behind '" + between + "'", x.gate(0, 0), 7);
            Due.promise(5, "told(6) behind '" + between + "'", x.told(6), 4);
            Due.promise(5, "told(7) behind '" + between + "'", x.told(7), 0);
            Due.promise(8, "likes(0, 2) behind '" + between + "'", x.likes(0, 2), 0);
            Due.promise(8, "likes(2, 0) behind '" + between + "'", x.likes(2, 0), 1);
            Due.promise(8, "likes(0, 1) behind '" + between + "'", x.likes(0, 1), 2);
            Due.promise(7, "person(0, 3) behind '" + between + "'", x.person(0, 3), 0);
        }
    }

    private static void toldFrom0To13() {
        KissGates x = Due.of("g5;p0 0;");
        for (int what : new int[] {LEAST, -2, -1, 14, 15, MOST}) {
            Due.promise(5, "told(" + what + ")", x.told(what), OUTSIDE);
        }
        Due.promise(5, "told(0)", x.told(0), 1);
        x.hole(0);
        Due.promise(5, "told(13)", x.told(13), 1);
    }

    private static void toldSetsWithNobodyAndWithAll() {
        KissGates none = Due.of("g1;g1;g1;g1;g1;" + "p0 0;".repeat(7));
        KissGates all = Due.of("g1;g1;g1;g1;g1;" + "p1 1;".repeat(7));
        Due.promise(5, "nobody inside", none.told(6), 0);
        Due.promise(5, "all inside", all.told(6), 127);
        Due.promise(5, "no COLD", none.told(7), 0);
        Due.promise(5, "all have a COLD", all.told(7), 127);
        Due.promise(5, "nobody WAITS", all.told(8), 0);
        for (int p = 0; p < 7; p++) {
            Due.promise(11, "who WAITS there", all.come(p, 4), (2 << p) - 1);
            Due.promise(5, "who WAITS", all.told(8), (2 << p) - 1);
        }
        Due.promise(6, "who WAITS at gate 4", all.gate(4, 3), 127);
        Due.promise(6, "who WAITS at gate 3", all.gate(3, 3), 0);
        Due.promise(5, "no GATE is RUSTED", all.told(9), 0);
        all.hour(1);
        Due.promise(5, "all GATES are RUSTED", all.told(9), 31);
        KissGates first = Due.of("p1 1;p0 0;p0 0;p0 0;p0 0;p0 0;p0 0;");
        Due.promise(5, "the first inside", first.told(6), 1);
        Due.promise(5, "the first has a COLD", first.told(7), 1);
        KissGates last = Due.of("p0 0;p0 0;p0 0;p0 0;p0 0;p0 0;p1 1;");
        Due.promise(5, "the last inside", last.told(6), 64);
        Due.promise(5, "the last has a COLD", last.told(7), 64);
    }

    private static void gatesFrom0ToTheLast() {
        KissGates x = Due.of(ALL_GATES_AND_PERSONS);
        int[] rust = {1, 2, 3, 4, 99};
        for (int g = 0; g < 5; g++) {
            Due.promise(6, "gate(" + g + ", 0)", x.gate(g, 0), rust[g]);
        }
        for (int g : new int[] {LEAST, -2, -1, 5, 6, MOST}) {
            Due.promise(6, "gate(" + g + ", 0)", x.gate(g, 0), UNKNOWN);
            Due.promise(6, "UNKNOWN ahead of OUTSIDE", x.gate(g, 4), UNKNOWN);
            Due.promise(6, "UNKNOWN ahead of OUTSIDE", x.gate(g, -1), UNKNOWN);
        }
        KissGates one = Due.of("g7;p0 0;p0 0;");
        Due.promise(6, "the only gate", one.gate(0, 0), 7);
        Due.promise(6, "one behind the only gate", one.gate(1, 0), UNKNOWN);
    }

    private static void gateWhatFrom0To3() {
        KissGates x = Due.of("g7;p0 0;p0 0;");
        x.hour(3);
        x.come(1, 0);
        int[] due = {7, 3, 0, 2};
        for (int what = 0; what <= 3; what++) {
            Due.promise(6, "gate(0, " + what + ")", x.gate(0, what), due[what]);
        }
        for (int what : new int[] {LEAST, -2, -1, 4, 5, MOST}) {
            Due.promise(6, "gate(0, " + what + ")", x.gate(0, what), OUTSIDE);
        }
    }

    private static void gateHoursAreRAtMost() {
        for (int rust : new int[] {1, 2, 59}) {
            KissGates x = Due.of("g" + rust + ";");
            Due.promise(6, "hours at first", x.gate(0, 1), 0);
            for (int hour = 1; hour <= rust + 2; hour++) {
                x.hour(1);
                Due.promise(6, "R " + rust + ", hours behind " + hour, x.gate(0, 1), Math.min(hour, rust));
                Due.promise(6, "R " + rust + ", rusted behind " + hour, x.gate(0, 2), hour >= rust ? 1 : 0);
            }
            x.hour(60);
            Due.promise(6, "R " + rust + ", hours much later", x.gate(0, 1), rust);
        }
    }

    private static void personsFrom0ToTheLast() {
        KissGates x = Due.of(ALL_GATES_AND_PERSONS);
        int[] inside = {0, 1, 0, 1, 0, 0, 1};
        for (int p = 0; p < 7; p++) {
            Due.promise(7, "person(" + p + ", 0)", x.person(p, 0), inside[p]);
        }
        for (int p : new int[] {LEAST, -2, -1, 7, 8, MOST}) {
            Due.promise(7, "person(" + p + ", 0)", x.person(p, 0), UNKNOWN);
            Due.promise(7, "UNKNOWN ahead of OUTSIDE", x.person(p, 4), UNKNOWN);
            Due.promise(7, "UNKNOWN ahead of OUTSIDE", x.person(p, -1), UNKNOWN);
        }
        KissGates one = Due.of("g7;g7;p1 0;");
        Due.promise(7, "the only person", one.person(0, 0), 1);
        Due.promise(7, "one behind the only person", one.person(1, 0), UNKNOWN);
    }

    private static void personWhatFrom0To3() {
        KissGates x = Due.of("g7;g7;p0 0;p1 1;l0 1 1;l1 0 1;");
        Due.promise(7, "WAITS at none at first", x.person(1, 1), NONE);
        x.come(1, 0);
        Due.promise(7, "WAITS at the first gate", x.person(1, 1), 0);
        x.come(1, 1);
        int[] due = {1, 1, 1, 1};
        for (int what = 0; what <= 3; what++) {
            Due.promise(7, "person(1, " + what + ")", x.person(1, what), due[what]);
        }
        x.goOff(1);
        Due.promise(7, "WAITS at none behind goOff()", x.person(1, 1), NONE);
        for (int what : new int[] {LEAST, -2, -1, 4, 5, MOST}) {
            Due.promise(7, "person(0, " + what + ")", x.person(0, what), OUTSIDE);
        }
    }

    private static void wouldMeetBy1OrMore() {
        for (int one = 0; one <= 2; one++) {
            for (int other = 0; other <= 2; other++) {
                KissGates x = Due.of("g9;p1 0;p0 0;l0 1 " + one + ";l1 0 " + other + ";");
                int would = one >= 1 && other >= 1 ? 1 : 0;
                Due.promise(7, "0 WOULD meet 1 by " + one + ", " + other, x.person(0, 3), 2 * would);
                Due.promise(7, "1 WOULD meet 0 by " + one + ", " + other, x.person(1, 3), would);
                x.come(0, 0);
                x.come(1, 0);
                x.hour(1);
                Due.promise(10, "they meet by " + one + ", " + other, x.told(4), would);
            }
        }
    }

    private static void wouldMeetAcrossAlone() {
        for (int side = 0; side <= 1; side++) {
            KissGates x = Due.of("g9;p" + side + " 0;p" + side + " 0;l0 1 9;l1 0 9;");
            Due.promise(7, "both on side " + side, x.person(0, 3), 0);
            x.hole(0);
            Due.promise(7, "across then", x.person(0, 3), 2);
            x.hole(1);
            Due.promise(7, "both on the other side", x.person(1, 3), 0);
        }
        StringBuilder text = new StringBuilder("p1 0;" + "p0 0;".repeat(6));
        for (int q = 1; q < 7; q++) {
            text.append("l0 ").append(q).append(" 1;l").append(q).append(" 0 1;");
        }
        KissGates all = Due.of(text.toString());
        Due.promise(7, "0 WOULD meet all others", all.person(0, 3), 126);
        Due.promise(7, "6 WOULD meet 0", all.person(6, 3), 1);
    }

    private static void likesOfUnlikePersons() {
        KissGates x = Due.of("p0 0;p0 0;p0 0;p0 0;p0 0;p0 0;p0 0;l0 6 9;l6 0 1;l5 6 0;");
        Due.promise(8, "likes(0, 6)", x.likes(0, 6), 9);
        Due.promise(8, "likes(6, 0)", x.likes(6, 0), 1);
        Due.promise(8, "likes(5, 6)", x.likes(5, 6), 0);
        Due.promise(8, "likes(6, 5)", x.likes(6, 5), 0);
        for (int p = 0; p < 7; p++) {
            Due.promise(8, "one twice: " + p, x.likes(p, p), UNKNOWN);
        }
        for (int p : new int[] {LEAST, -1, 7, MOST}) {
            Due.promise(8, "likes(" + p + ", 0)", x.likes(p, 0), UNKNOWN);
            Due.promise(8, "likes(0, " + p + ")", x.likes(0, p), UNKNOWN);
            Due.promise(8, "likes(" + p + ", " + p + ")", x.likes(p, p), UNKNOWN);
        }
    }

    /** Three who like one another, one of them inside: 0 with 1, 1 with 2, 2 with 0 and so on. */
    private static KissGates afterMeetings(int count) {
        KissGates x = Due.of("g99;p1 0;p0 0;p0 0;l0 1 1;l1 0 1;l0 2 1;l2 0 1;l1 2 1;l2 1 1;");
        for (int i = 0; i < count; i++) {
            x.come(i % 3, 0);
            x.come((i + 1) % 3, 0);
            x.hour(1);
        }
        return x;
    }

    private static void logKeepsTheLatestTwenty() {
        int[] pairs = {1, 12, 2};
        for (int count : new int[] {0, 1, 2, 19, 20, 21, 22, 41}) {
            KissGates x = afterMeetings(count);
            Due.promise(5, "MEETINGS", x.told(4), count);
            Due.promise(5, "how many THE LOG has of " + count, x.told(10), Math.min(20, count));
            for (int i = -1; i <= 21; i++) {
                int due = i < 0 || i >= Math.min(20, count) ? NONE : pairs[(count - 1 - i) % 3];
                Due.promise(9, "logged(" + i + ") of " + count, x.logged(i), due);
            }
            Due.promise(9, "logged(least)", x.logged(LEAST), NONE);
            Due.promise(9, "logged(most)", x.logged(MOST), NONE);
        }
    }
}
