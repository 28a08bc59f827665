/** Promises 18 to 26 with the tried part of section 3: pairs at once, sides, loves, colds, rust, oil, rain. */
final class EdgesOfTrials implements Answers {
    private EdgesOfTrials() {
    }

    static void all() {
        atOnceFromMinus2ToTheLast();
        atOnceNoMorePairsThanGates();
        atOnceNoMorePairsThanOpenGates();
        atOnceMostPairsAheadOfMostLiking();
        atOnceMostLikingAheadOfTheFirst();
        atOnceNoneLast();
        sidesOfPersonsThatThereAre();
        sidesOfTheSetAlone();
        sidesBehindNoHour();
        sidesHourByHour();
        sidesByGatesNotRusted();
        sidesNobodyTwiceAnHour();
        steadyByMoreAlone();
        steadyWithNoneIs0();
        steadyToTheLastOfSeven();
        lovesFromMinus1ToTheLast();
        lovesBy1OrMore();
        lovesNobodyMore();
        firstJustThose();
        firstByEachPair();
        firstByTheLogAlone();
        diesWhat0Or1();
        diesNext();
        oilForFrom0To200();
        oilForWhatRustsAheadOfAnHour();
        eveningOfOneWhoWaits();
        eveningOfOneToSix();
        dryFrom0To60Days();
        dryIsCutEachDay();
    }

    /** Both ways by n. */
    private static String fond(int p, int q, int n) {
        return "l" + p + " " + q + " " + n + ";l" + q + " " + p + " " + n + ";";
    }

    /** 0, 1, 2 inside, 3, 4, 5 outside; 0 with 3 by a, 1 with 4 by b, 2 with 5 by c. */
    private static String threePairs(int a, int b, int c) {
        return "p1 0;p1 0;p1 0;p0 0;p0 0;p0 0;" + fond(0, 3, a) + fond(1, 4, b) + fond(2, 5, c);
    }

    private static void paired(String what, KissGates x, int... others) {
        for (int p = 0; p < others.length; p++) {
            Due.promise(18, what + ": atOnce(" + p + ")", x.atOnce(p), others[p]);
        }
    }

    private static void atOnceFromMinus2ToTheLast() {
        KissGates x = Due.of("g9;g9;" + threePairs(1, 2, 3) + "p0 0;");
        for (int p : new int[] {LEAST, -4, -3, 7, 8, MOST}) {
            Due.promise(18, "atOnce(" + p + ")", x.atOnce(p), UNKNOWN);
        }
        Due.promise(18, "atOnce(-2)", x.atOnce(-2), 10);
        Due.promise(18, "atOnce(-1)", x.atOnce(-1), 2);
        paired("the first to the last", x, NONE, 4, 5, NONE, 1, 2, NONE);
        KissGates nobody = Due.of("g9;");
        Due.promise(18, "nobody: atOnce(-2)", nobody.atOnce(-2), 0);
        Due.promise(18, "nobody: atOnce(-1)", nobody.atOnce(-1), 0);
        Due.promise(18, "nobody: atOnce(0)", nobody.atOnce(0), UNKNOWN);
        KissGates apart = Due.of("g9;p1 0;p1 0;p0 0;" + fond(0, 1, 9) + "l0 2 9;");
        Due.promise(18, "none WOULD: atOnce(-2)", apart.atOnce(-2), 0);
        Due.promise(18, "none WOULD: atOnce(-1)", apart.atOnce(-1), 0);
        paired("none WOULD", apart, NONE, NONE, NONE);
    }

    private static void atOnceNoMorePairsThanGates() {
        int[] pairs = {0, 1, 2, 3, 3, 3};
        int[] rising = {0, 8, 14, 18, 18, 18};
        for (int gates = 0; gates <= 5; gates++) {
            KissGates x = Due.of("g9;".repeat(gates) + threePairs(2, 3, 4));
            Due.promise(18, "pairs by " + gates + " gates", x.atOnce(-1), pairs[gates]);
            Due.promise(18, "how much by " + gates + " gates", x.atOnce(-2), rising[gates]);
            paired(gates + " gates, the most liked", x,
                gates >= 3 ? 3 : NONE, gates >= 2 ? 4 : NONE, gates >= 1 ? 5 : NONE);
            KissGates like = Due.of("g9;".repeat(gates) + threePairs(2, 2, 2));
            paired(gates + " gates, of like ones the first", like,
                gates >= 1 ? 3 : NONE, gates >= 2 ? 4 : NONE, gates >= 3 ? 5 : NONE);
        }
    }

    private static void atOnceNoMorePairsThanOpenGates() {
        KissGates x = Due.of("g1;g2;g3;" + threePairs(1, 1, 1));
        for (int hour = 0; hour <= 3; hour++) {
            Due.promise(18, "pairs with " + hour + " RUSTED", x.atOnce(-1), 3 - hour);
            Due.promise(18, "how much with " + hour + " RUSTED", x.atOnce(-2), 6 - 2 * hour);
            x.hour(1);
        }
        paired("all RUSTED", x, NONE, NONE, NONE, NONE, NONE, NONE);
        x.oil(1);
        Due.promise(18, "one OILED", x.atOnce(-1), 1);
        paired("one OILED", x, 3, NONE, NONE, 0, NONE, NONE);
    }

    private static void atOnceMostPairsAheadOfMostLiking() {
        String path = "p0 0;p1 0;p0 0;p1 0;" + fond(0, 1, 1) + fond(1, 2, 9) + fond(2, 3, 1);
        KissGates two = Due.of("g9;g9;" + path);
        Due.promise(18, "two pairs by less", two.atOnce(-1), 2);
        Due.promise(18, "how much of two pairs", two.atOnce(-2), 4);
        paired("two pairs by less", two, 1, 0, 3, 2);
        KissGates one = Due.of("g9;" + path);
        Due.promise(18, "one pair by more", one.atOnce(-1), 1);
        Due.promise(18, "how much of one pair", one.atOnce(-2), 18);
        paired("one pair by more", one, NONE, 2, 1, NONE);
    }

    /** 0 and 1 inside, 2 and 3 outside: 02 with 13 like each other by 15 and n, 03 with 12 by 20. */
    private static KissGates twoWays(int n) {
        return Due.of("g9;g9;p1 0;p1 0;p0 0;p0 0;" + fond(0, 2, 5) + "l1 3 5;l3 1 " + n + ";" + fond(0, 3, 5) + fond(1, 2, 5));
    }

    private static void atOnceMostLikingAheadOfTheFirst() {
        KissGates less = twoWays(4);
        Due.promise(18, "the first way by one less", less.atOnce(-2), 20);
        paired("the first way by one less", less, 3, 2, 1, 0);
        KissGates like = twoWays(5);
        Due.promise(18, "both ways alike", like.atOnce(-2), 20);
        paired("both ways alike: the first", like, 2, 3, 0, 1);
        KissGates more = twoWays(6);
        Due.promise(18, "the first way by one more", more.atOnce(-2), 21);
        paired("the first way by one more", more, 2, 3, 0, 1);
    }

    private static void atOnceNoneLast() {
        KissGates x = Due.of("g9;p1 0;p1 0;p0 0;p0 0;" + fond(0, 3, 1) + fond(1, 2, 1));
        paired("0 with 3 is ahead of 0 with none", x, 3, NONE, NONE, 0);
        KissGates more = Due.of("g9;p1 0;p1 0;p0 0;p0 0;" + fond(0, 3, 1) + "l1 2 1;l2 1 2;");
        paired("more liking is ahead of it", more, NONE, 2, 1, NONE);
    }

    private static void sidesOfPersonsThatThereAre() {
        for (int persons : new int[] {0, 1, 6, 7}) {
            KissGates x = Due.of("g9;" + "p1 0;".repeat(persons));
            int all = (1 << persons) - 1;
            Due.promise(19, "all of " + persons, x.sides(all, all), 0);
            Due.promise(19, "no SET of " + persons, x.sides(0, 0), 0);
            Due.promise(19, "one too many in the SET of " + persons, x.sides(all + 1, 0), UNKNOWN);
            Due.promise(19, "one too many inside of " + persons, x.sides(0, all + 1), UNKNOWN);
            Due.promise(19, "one too many besides " + persons, x.sides(2 * all + 1, all), UNKNOWN);
            Due.promise(19, "one too many inside besides " + persons, x.sides(all, 2 * all + 1), UNKNOWN);
            for (int set : new int[] {LEAST, -1, MOST, 1 << 30}) {
                Due.promise(19, "sides(" + set + ", 0)", x.sides(set, 0), UNKNOWN);
                Due.promise(19, "sides(0, " + set + ")", x.sides(0, set), UNKNOWN);
            }
        }
    }

    private static void sidesOfTheSetAlone() {
        KissGates x = Due.of("g9;p1 0;p0 0;p0 0;" + fond(0, 1, 1));
        Due.promise(19, "inside, but not of the SET", x.sides(1, 7), 0);
        Due.promise(19, "inside, all of the SET", x.sides(7, 7), NONE);
        Due.promise(19, "outside, of the SET", x.sides(4, 3), 0);
        Due.promise(19, "inside, of the SET", x.sides(4, 4), NONE);
        Due.promise(19, "nobody of the SET", x.sides(0, 7), 0);
    }

    private static void sidesBehindNoHour() {
        KissGates x = Due.of("g9;p1 0;p0 0;" + fond(0, 1, 1));
        Due.promise(19, "as they are", x.sides(3, 1), 0);
        Due.promise(19, "the other way round", x.sides(3, 2), 1);
        Due.promise(19, "both inside", x.sides(3, 3), NONE);
        Due.promise(19, "both outside", x.sides(3, 0), NONE);
        Due.promise(5, "nothing changes", x.told(6), 1);
        KissGates untold = Due.of("g9;p1 0;p0 0;l0 1 1;l1 0 0;");
        Due.promise(19, "they WOULD not", untold.sides(3, 2), NONE);
    }

    /** Seven in a row who like their neighbours, the first three inside. */
    private static KissGates row(int gates) {
        StringBuilder text = new StringBuilder("g9;".repeat(gates) + "p1 0;p1 0;p1 0;p0 0;p0 0;p0 0;p0 0;");
        for (int p = 0; p < 6; p++) {
            text.append(fond(p, p + 1, 1));
        }
        return Due.of(text.toString());
    }

    private static void sidesHourByHour() {
        KissGates x = row(1);
        for (int p = 3; p < 7; p++) {
            Due.promise(19, p + " inside", x.sides(1 << p, 1 << p), p - 2);
        }
        Due.promise(19, "twelve meetings by one gate", x.sides(127, 112), 12);
        Due.promise(19, "eleven", x.sides(127, 104), 11);
        Due.promise(19, "seven hours by two gates", row(2).sides(127, 112), 7);
        Due.promise(19, "six hours by three gates", row(3).sides(127, 112), 6);
        Due.promise(19, "six hours by five gates", row(5).sides(127, 112), 6);
        Due.promise(19, "never four inside", row(5).sides(120, 120), NONE);
    }

    private static void sidesByGatesNotRusted() {
        for (int gates = 0; gates <= 4; gates++) {
            KissGates x = Due.of("g9;".repeat(gates) + threePairs(1, 1, 1));
            int[] due = {NONE, 3, 2, 1, 1};
            Due.promise(19, "three pairs by " + gates + " gates", x.sides(63, 56), due[gates]);
            Due.promise(19, "as they are by " + gates + " gates", x.sides(63, 7), 0);
        }
        KissGates rusts = Due.of("g1;g2;g3;" + threePairs(1, 1, 1));
        int[] due = {1, 2, 3, NONE};
        for (int hour = 0; hour <= 3; hour++) {
            Due.promise(19, "three pairs with " + hour + " RUSTED", rusts.sides(63, 56), due[hour]);
            rusts.hour(1);
        }
        KissGates lasting = Due.of("g1;" + threePairs(1, 1, 1));
        Due.promise(19, "GATES not RUSTED now, whatever R", lasting.sides(63, 56), 3);
    }

    private static void sidesNobodyTwiceAnHour() {
        KissGates x = Due.of("g9;g9;g9;p1 0;p0 0;p0 0;" + fond(0, 1, 1) + fond(1, 2, 1));
        Due.promise(19, "1 meets 0, then 2", x.sides(4, 4), 2);
        KissGates star = Due.of("g9;g9;g9;p1 0;p1 0;p0 0;" + fond(0, 2, 1) + fond(1, 2, 1));
        Due.promise(19, "2 meets one of two", star.sides(3, 2), 1);
        Due.promise(19, "both cannot be outside", star.sides(3, 0), NONE);
    }

    private static void steadyByMoreAlone() {
        // most pairs: 0 with 1, 2 with 3; 1 and 2 like each other by n, m
        int[][] due = {{1, 1, 1}, {2, 1, 1}, {1, 2, 1}, {2, 2, 1}, {3, 2, 1}, {2, 3, 1}, {3, 3, 0}};
        for (int[] d : due) {
            KissGates x = Due.of("g9;g9;p0 0;p1 0;p0 0;p1 0;" + fond(0, 1, 2) + fond(2, 3, 2)
                + "l1 2 " + d[0] + ";l2 1 " + d[1] + ";");
            Due.is("0 is with 1", x.atOnce(0), 1);
            Due.promise(20, "1 and 2 by " + d[0] + ", " + d[1], x.steady(), d[2]);
        }
        KissGates side = Due.of("g9;g9;p0 0;p1 0;p1 0;p0 0;" + fond(0, 1, 2) + fond(2, 3, 2) + fond(1, 2, 9));
        Due.promise(20, "those of one side WOULD not meet", side.steady(), 1);
    }

    private static void steadyWithNoneIs0() {
        Due.promise(20, "nobody", Due.of("g9;").steady(), 1);
        Due.promise(20, "no GATE, none WOULD", Due.of("p1 0;p0 0;l0 1 1;").steady(), 1);
        Due.promise(20, "no GATE, two by 1", Due.of("p1 0;p0 0;" + fond(0, 1, 1)).steady(), 0);
        KissGates x = Due.of("g2;p1 0;p0 0;" + fond(0, 1, 1));
        x.hour(1);
        Due.promise(20, "an hour ahead of rust", x.steady(), 1);
        x.hour(1);
        Due.promise(20, "RUSTED", x.steady(), 0);
        KissGates third = Due.of("g9;g9;p1 0;p0 0;p0 0;" + fond(0, 1, 2) + "l2 0 9;l0 2 2;");
        Due.is("0 is with 2", third.atOnce(0), 2);
        Due.promise(20, "0 likes both alike", third.steady(), 1);
        KissGates rather = Due.of("g9;g9;p1 0;p0 0;p0 0;l0 1 3;l1 0 1;l2 0 9;l0 2 2;");
        Due.is("0 is with 2", rather.atOnce(0), 2);
        Due.promise(20, "0 and 1, who is with none, would rather", rather.steady(), 0);
    }

    private static void steadyToTheLastOfSeven() {
        String lastTwo = "p0 0;p0 0;p0 0;p0 0;p0 0;p1 0;p0 0;" + fond(5, 6, 1);
        Due.promise(20, "the last two of seven, no GATE", Due.of(lastTwo).steady(), 0);
        Due.promise(20, "the last two of seven, one GATE", Due.of("g9;" + lastTwo).steady(), 1);
        String firstAndLast = "p0 0;p0 0;p0 0;p0 0;p0 0;p0 0;p1 0;" + fond(0, 6, 1);
        Due.promise(20, "the first and the last of seven, no GATE", Due.of(firstAndLast).steady(), 0);
        Due.promise(20, "the first and the last of seven, one GATE", Due.of("g9;" + firstAndLast).steady(), 1);
    }

    private static void lovesFromMinus1ToTheLast() {
        KissGates x = Due.of("p0 0;p0 0;p0 0;p0 0;p0 0;p0 0;p1 0;" + fond(0, 6, 1) + fond(5, 6, 1) + fond(1, 2, 9));
        Due.promise(21, "how many", x.loves(-1), 3);
        Due.promise(21, "the first", x.loves(0), 6);
        Due.promise(21, "the second", x.loves(1), 12);
        Due.promise(21, "the last", x.loves(2), 56);
        for (int i : new int[] {LEAST, -3, -2, 3, 4, MOST}) {
            Due.promise(21, "loves(" + i + ")", x.loves(i), NONE);
        }
        KissGates none = Due.of("p0 0;p0 0;");
        Due.promise(21, "how many of none", none.loves(-1), 0);
        Due.promise(21, "the first of none", none.loves(0), NONE);
    }

    private static void lovesBy1OrMore() {
        for (int one = 0; one <= 2; one++) {
            for (int other = 0; other <= 2; other++) {
                KissGates x = Due.of("p0 0;p0 0;l0 1 " + one + ";l1 0 " + other + ";");
                int love = one >= 1 && other >= 1 ? 1 : 0;
                Due.promise(21, "how many by " + one + ", " + other, x.loves(-1), love);
                Due.promise(21, "the first by " + one + ", " + other, x.loves(0), love == 1 ? 1 : NONE);
            }
        }
    }

    private static void lovesNobodyMore() {
        for (int third = 4; third <= 6; third++) {
            KissGates one = Due.of("p0 0;p0 0;p0 0;" + fond(0, 1, 5) + "l0 2 " + third + ";");
            Due.promise(21, "0 likes 2 by " + third, one.loves(-1), third <= 5 ? 1 : 0);
            KissGates other = Due.of("p0 0;p0 0;p0 0;" + fond(0, 1, 5) + "l1 2 " + third + ";");
            Due.promise(21, "1 likes 2 by " + third, other.loves(-1), third <= 5 ? 1 : 0);
            KissGates liked = Due.of("p0 0;p0 0;p0 0;" + fond(0, 1, 5) + "l2 0 " + third + ";");
            Due.promise(21, "0 is liked by 2 by " + third, liked.loves(-1), 1);
            KissGates last = Due.of("p0 0;p0 0;p0 0;" + fond(1, 2, 5) + "l2 0 " + third + ";");
            Due.promise(21, "2 likes 0 by " + third, last.loves(-1), third <= 5 ? 1 : 0);
        }
    }

    private static void firstJustThose() {
        Due.promise(22, "nobody", Due.of("g9;").first(), 0);
        Due.promise(22, "no COLD", Due.of("p0 0;p0 0;").first(), 0);
        Due.promise(22, "the first alone", Due.of("p0 1;p0 0;p0 0;p0 0;p0 0;p0 0;p0 0;").first(), 1);
        Due.promise(22, "the last alone", Due.of("p0 0;p0 0;p0 0;p0 0;p0 0;p0 0;p0 1;").first(), 64);
        Due.promise(22, "two who have not met", Due.of("p0 1;p0 1;").first(), 0);
        KissGates x = Due.of("g9;p1 1;p0 0;p1 0;p0 0;" + fond(0, 1, 1) + fond(1, 2, 1) + fond(0, 3, 1));
        Due.meet(x, 0, 1);
        Due.promise(22, "either of two", x.first(), 3);
        x.hole(2);
        Due.meet(x, 1, 2);
        Due.promise(22, "the oldest meeting first: not by 2", x.first(), 3);
        Due.is("three have it", x.told(7), 7);
        x.well(2);
        Due.promise(22, "one too few has it", x.first(), 0);
        KissGates more = Due.of("g9;p1 1;p0 0;p1 1;p0 0;" + fond(0, 1, 1));
        Due.meet(more, 0, 1);
        Due.promise(22, "one too many has it", more.first(), 0);
        more.well(2);
        Due.promise(22, "just those", more.first(), 3);
    }

    private static void firstByEachPair() {
        for (int p = 0; p < 7; p++) {
            for (int q = p + 1; q < 7; q++) {
                StringBuilder text = new StringBuilder("g9;");
                for (int r = 0; r < 7; r++) {
                    text.append(r == q ? "p1 1;" : "p0 0;");
                }
                KissGates x = Due.of(text + fond(p, q, 1));
                Due.meet(x, p, q);
                Due.promise(9, "who with whom: " + p + ", " + q, x.logged(0), 10 * p + q);
                Due.promise(22, "either of " + p + ", " + q, x.first(), (1 << p) | (1 << q));
            }
        }
    }

    private static void firstByTheLogAlone() {
        for (int others = 18; others <= 20; others++) {
            KissGates x = Due.of("g99;p1 1;p0 0;p1 0;p0 0;" + fond(0, 1, 1) + fond(2, 3, 1));
            Due.meet(x, 0, 1);
            for (int i = 0; i < others; i++) {
                Due.meet(x, 2, 3);
            }
            Due.is("all met", x.told(4), others + 1);
            Due.promise(22, "behind " + others + " other meetings", x.first(), others <= 19 ? 3 : 0);
            x.ill(0, true);
            Due.promise(28, "behind " + others + " other meetings", x.mayBe(), others <= 19 ? 3 : 1);
        }
    }

    private static void diesWhat0Or1() {
        KissGates x = Due.of("g9;g8;");
        for (int what : new int[] {LEAST, -2, -1, 2, 3, MOST}) {
            Due.promise(23, "dies(" + what + ")", x.dies(what), OUTSIDE);
        }
        Due.promise(23, "dies(0)", x.dies(0), 1);
        Due.promise(23, "dies(1)", x.dies(1), 8);
        KissGates none = Due.of("p0 0;");
        Due.promise(23, "no GATE", none.dies(0), NONE);
        Due.promise(23, "no GATE: HOURS", none.dies(1), NONE);
    }

    private static void diesNext() {
        KissGates x = Due.of("g1;g3;g2;g3;g99;");
        int[][] due = {{0, 1}, {2, 1}, {1, 1}, {4, 96}, {4, 95}};
        for (int hour = 0; hour < due.length; hour++) {
            Due.promise(23, "the GATE behind " + hour, x.dies(0), due[hour][0]);
            Due.promise(23, "the HOURS behind " + hour, x.dies(1), due[hour][1]);
            x.hour(1);
        }
        x.hour(60);
        x.hour(33);
        Due.promise(23, "the last GATE", x.dies(0), 4);
        Due.promise(23, "its last HOUR", x.dies(1), 1);
        x.hour(1);
        Due.promise(23, "all are RUSTED", x.dies(0), NONE);
        Due.promise(23, "all are RUSTED: HOURS", x.dies(1), NONE);
        x.oil(3);
        Due.promise(23, "one OILED", x.dies(0), 3);
        Due.promise(23, "one OILED: HOURS", x.dies(1), 3);
        x.oil(1);
        Due.promise(23, "of like ones the least", x.dies(0), 1);
        x.hour(1);
        x.oil(1);
        Due.promise(23, "the lesser one an hour later", x.dies(0), 3);
        Due.promise(23, "the lesser one an hour later: HOURS", x.dies(1), 2);
    }

    private static void oilForFrom0To200() {
        KissGates x = Due.of("g1;");
        for (int n : new int[] {LEAST, -2, -1, 201, 202, MOST}) {
            Due.promise(24, "oilFor(" + n + ")", x.oilFor(n), OUTSIDE);
        }
        Due.promise(24, "oilFor(0)", x.oilFor(0), 0);
        Due.promise(24, "oilFor(1)", x.oilFor(1), 0);
        Due.promise(24, "oilFor(199)", x.oilFor(199), 198);
        Due.promise(24, "oilFor(200)", x.oilFor(200), 199);
        KissGates five = Due.of("g1;g1;g1;g1;g1;");
        Due.promise(24, "five GATES", five.oilFor(200), 5 * 199);
        five.hour(1);
        Due.promise(24, "five RUSTED", five.oilFor(200), 5 * 200);
        Due.promise(24, "no GATE", Due.of("p0 0;").oilFor(200), 0);
    }

    private static void oilForWhatRustsAheadOfAnHour() {
        for (int rust : new int[] {2, 3, 66, 67, 98, 99}) {
            KissGates x = Due.of("g" + rust + ";");
            Due.promise(24, "R " + rust + " in R hours", x.oilFor(rust), 0);
            Due.promise(24, "R " + rust + " in one more", x.oilFor(rust + 1), 1);
            Due.promise(24, "R " + rust + " in twice R", x.oilFor(2 * rust), 1);
            Due.promise(24, "R " + rust + " in twice R and one", x.oilFor(2 * rust + 1), 2);
            x.hour(1);
            Due.promise(24, "R " + rust + ", an hour later, in R hours less one", x.oilFor(rust - 1), 0);
            Due.promise(24, "R " + rust + ", an hour later, in R hours", x.oilFor(rust), 1);
        }
        KissGates rusted = Due.of("g3;");
        rusted.hour(3);
        int[] due = {0, 1, 1, 1, 2, 2, 2, 3};
        for (int n = 0; n < due.length; n++) {
            Due.promise(24, "RUSTED now, in " + n, rusted.oilFor(n), due[n]);
        }
        rusted.hour(9);
        Due.promise(24, "RUSTED long ago, in 3", rusted.oilFor(3), 1);
        Due.promise(24, "RUSTED long ago, in 4", rusted.oilFor(4), 2);
        Due.promise(6, "nothing changes", rusted.gate(0, 2), 1);
    }

    private static void eveningOfOneWhoWaits() {
        KissGates x = Due.of("g2;g9;p1 0;p0 0;" + fond(0, 1, 1));
        for (int p : new int[] {LEAST, -2, -1, 2, 3, MOST}) {
            Due.promise(25, "evening(" + p + ")", x.evening(p), UNKNOWN);
        }
        Due.promise(25, "WAITS at none", x.evening(0), NOT);
        x.come(0, 0);
        Due.promise(25, "WAITS alone", x.evening(0), 10);
        Due.promise(25, "the other one WAITS at none", x.evening(1), NOT);
        x.come(1, 1);
        Due.promise(25, "the other one at another GATE", x.evening(0), 10);
        x.come(1, 0);
        Due.promise(25, "the other one there", x.evening(0), 9);
        x.goOff(1);
        x.hour(2);
        Due.promise(25, "at a RUSTED GATE", x.evening(0), 10);
        x.goOff(0);
        Due.promise(25, "GONE OFF", x.evening(0), NOT);
    }

    private static void eveningOfOneToSix() {
        StringBuilder text = new StringBuilder("g9;p1 0;" + "p0 0;".repeat(6));
        for (int q = 1; q < 7; q++) {
            text.append(fond(0, q, 1));
        }
        KissGates x = Due.of(text.toString());
        x.come(0, 0);
        for (int q = 1; q < 7; q++) {
            x.come(q, 0);
            Due.promise(25, "it WOULD meet " + q, x.evening(0), 10 - q);
            Due.promise(25, q + " WOULD meet one", x.evening(q), 9);
        }
        for (int one = 0; one <= 1; one++) {
            for (int other = 0; other <= 1; other++) {
                KissGates two = Due.of("g9;p1 0;p0 0;l0 1 " + one + ";l1 0 " + other + ";");
                two.come(0, 0);
                two.come(1, 0);
                Due.promise(25, "by " + one + ", " + other, two.evening(0), 10 - one * other);
            }
        }
        KissGates side = Due.of("g9;p1 0;p1 0;" + fond(0, 1, 9));
        side.come(0, 0);
        side.come(1, 0);
        Due.promise(25, "of one side", side.evening(0), 10);
    }

    private static void dryFrom0To60Days() {
        KissGates x = new KissGates();
        for (int n : new int[] {LEAST, -2, -1, 61, 62, MOST}) {
            Due.promise(26, "dry(" + n + ", 50)", x.dry(n, 50), OUTSIDE);
        }
        for (int q : new int[] {LEAST, -2, -1, 101, 102, MOST}) {
            Due.promise(26, "dry(1, " + q + ")", x.dry(1, q), OUTSIDE);
            Due.promise(26, "dry(0, " + q + ")", x.dry(0, q), OUTSIDE);
            Due.promise(26, "dry(61, " + q + ")", x.dry(61, q), OUTSIDE);
        }
        Due.promise(26, "dry(0, 0)", x.dry(0, 0), 1000000000);
        Due.promise(26, "dry(0, 100)", x.dry(0, 100), 1000000000);
        Due.promise(26, "dry(1, 0)", x.dry(1, 0), 1000000000);
        Due.promise(26, "dry(59, 0)", x.dry(59, 0), 1000000000);
        Due.promise(26, "dry(60, 0)", x.dry(60, 0), 1000000000);
        Due.promise(26, "dry(1, 1)", x.dry(1, 1), 990000000);
        Due.promise(26, "dry(1, 99)", x.dry(1, 99), 10000000);
        Due.promise(26, "dry(1, 100)", x.dry(1, 100), 0);
        Due.promise(26, "dry(60, 100)", x.dry(60, 100), 0);
        Due.promise(26, "dry(60, 99)", x.dry(60, 99), 0);
    }

    private static void dryIsCutEachDay() {
        KissGates x = new KissGates();
        int[] odds = {1000000000, 10000000, 100000, 1000, 10, 0, 0};
        for (int n = 0; n < odds.length; n++) {
            Due.promise(26, "dry(" + n + ", 99)", x.dry(n, 99), odds[n]);
        }
        // nine days are whole by themselves; from the eleventh on it shows that the tenth was cut
        int[] thirty = {40353607, 28247524, 19773266, 13841286};
        for (int n = 0; n < thirty.length; n++) {
            Due.promise(26, "dry(" + (9 + n) + ", 30)", x.dry(9 + n, 30), thirty[n]);
        }
        Due.promise(26, "dry(4, 9)", x.dry(4, 9), 685749610);
        Due.promise(26, "dry(5, 9)", x.dry(5, 9), 624032145);
        Due.promise(26, "dry(6, 9)", x.dry(6, 9), 567869251);
    }
}
