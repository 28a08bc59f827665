import java.util.List;
import java.util.function.Consumer;

/** Promises 10 to 17 with section 2 of the terms: hours, comings, rust, oil, colds, draws, undoing. */
final class EdgesOfDeeds implements Answers {
    /** One inside, one outside, who WOULD meet. */
    private static final String TWO = "p1 0;p0 0;l0 1 1;l1 0 1;";

    private EdgesOfDeeds() {
    }

    static void all() {
        hoursFrom1To60();
        hoursNeedAGate();
        hoursAreFullAbove9000();
        manyHoursAreAsSingleOnes();
        rustsBehindRHours();
        usedInTheLastHour();
        onePairAGateAnHour();
        mostTogetherMeet();
        ofLikePairsTheLeast();
        thoseAtOneGateMeet();
        coldsPassInAMeeting();
        comeFromTheFirstToTheLast();
        comeToAGateThatRusts();
        comeWhereItWaits();
        goOffOnce();
        holeForWhoWaitsAtNone();
        oilAheadOfAndBehindRust();
        wellOnce();
        driftFrom1To60();
        driftDrawsFromEverySeed();
        driftByWhoCannotCome();
        driftWithoutPersons();
        undoneOneByOne();
        twentyCanBeUndone();
        eachDeedCanBeUndone();
        meetingsOfAFullLogAreUndone();
        whatIsNoDeedIsNotUndone();
        nothingIsUndoneBehindImages();
    }

    private static void pass(KissGates x, int hours) {
        for (int left = hours; left > 0; left -= 60) {
            x.hour(Math.min(60, left));
        }
    }

    private static void hoursFrom1To60() {
        KissGates x = Due.of("g9;");
        for (int n : new int[] {LEAST, -60, -1, 0, 61, 62, 120, MOST}) {
            Due.promise(10, "hour(" + n + ")", x.hour(n), OUTSIDE);
            Due.promise(16, "drift(" + n + ")", x.drift(n), OUTSIDE);
        }
        Due.promise(5, "HOURS behind refused ones", x.told(3), 0);
        Due.promise(10, "hour(1)", x.hour(1), 1);
        Due.promise(10, "hour(2)", x.hour(2), 3);
        Due.promise(10, "hour(59)", x.hour(59), 62);
        Due.promise(10, "hour(60)", x.hour(60), 122);
        Due.promise(5, "HOURS", x.told(3), 122);
    }

    private static void hoursNeedAGate() {
        KissGates none = Due.of(TWO);
        Due.promise(10, "no GATES", none.hour(1), NOT);
        Due.promise(10, "no GATES, 60", none.hour(60), NOT);
        Due.promise(16, "no GATES", none.drift(1), NOT);
        for (int n : new int[] {0, 61}) {
            Due.promise(10, "OUTSIDE ahead of NOT: " + n, none.hour(n), OUTSIDE);
            Due.promise(16, "OUTSIDE ahead of NOT: " + n, none.drift(n), OUTSIDE);
        }
        Due.promise(5, "HOURS with no GATES", none.told(3), 0);
        Due.promise(10, "one GATE, nobody", Due.of("g9;").hour(1), 1);
        KissGates rusted = Due.of("g1;" + TWO);
        rusted.hour(1);
        Due.promise(10, "all GATES are RUSTED", rusted.hour(1), 2);
        Due.promise(16, "all GATES are RUSTED", rusted.drift(1), 0);
        Due.promise(5, "HOURS with all RUSTED", rusted.told(3), 3);
    }

    private static KissGates atHour(int hours) {
        KissGates x = Due.of("g1;" + TWO);
        pass(x, hours);
        Due.is("HOURS", x.told(3), hours);
        return x;
    }

    private static void hoursAreFullAbove9000() {
        Due.promise(10, "hour(1) at 8999", atHour(8999).hour(1), 9000);
        Due.promise(10, "hour(60) at 8999", atHour(8999).hour(60), 9059);
        KissGates x = atHour(9000);
        Due.promise(10, "hour(60) at 9000", x.hour(60), 9060);
        Due.promise(10, "hour(1) at 9060", x.hour(1), FULL);
        x.undo();
        Due.promise(16, "drift(1) at 9000", x.drift(1), 0);
        Due.promise(5, "HOURS behind it", x.told(3), 9001);
        Due.promise(16, "drift(1) at 9001", x.drift(1), FULL);
        Due.promise(16, "drift(60) at 9001", x.drift(60), FULL);
        Due.promise(10, "hour(1) at 9001", x.hour(1), FULL);
        Due.promise(10, "hour(60) at 9001", x.hour(60), FULL);
        for (int n : new int[] {0, 61}) {
            Due.promise(10, "OUTSIDE ahead of FULL: " + n, x.hour(n), OUTSIDE);
            Due.promise(16, "OUTSIDE ahead of FULL: " + n, x.drift(n), OUTSIDE);
        }
        Due.promise(5, "HOURS behind FULL", x.told(3), 9001);
        x.undo();
        Due.promise(16, "drift(60) at 9000", x.drift(60), 0);
        Due.promise(5, "HOURS behind drift(60)", x.told(3), 9060);
        Due.promise(14, "FULL is of hours alone", x.oil(0), 1);
        Due.promise(10, "FULL though a gate was oiled", x.hour(1), FULL);
    }

    private static KissGates threePairs() {
        KissGates x = Due.of("g2;g9;p1 1;p0 0;p0 0;p0 0;l0 1 1;l1 0 1;l0 2 2;l2 0 2;l1 3 1;l3 1 1;");
        for (int p = 0; p < 4; p++) {
            x.come(p, 1);
        }
        return x;
    }

    private static void manyHoursAreAsSingleOnes() {
        for (int n : new int[] {2, 3, 59, 60}) {
            KissGates x = threePairs();
            KissGates y = threePairs();
            x.hour(n);
            for (int i = 0; i < n; i++) {
                y.hour(1);
            }
            Due.promise(10, "hour(" + n + ") as " + n + " times hour(1)",
                Whole.ofSectionTwo(x).equals(Whole.ofSectionTwo(y)) ? 1 : 0, 1);
            Due.promise(17, "hour(" + n + ") is one to undo", x.told(13), 5);
        }
    }

    private static void rustsBehindRHours() {
        for (int rust : new int[] {1, 2, 3, 98, 99}) {
            KissGates x = Due.of("g" + rust + ";" + TWO);
            pass(x, rust - 1);
            Due.promise(10, "R " + rust + ": not RUSTED an hour ahead", x.told(9), 0);
            Due.promise(11, "R " + rust + ": one comes an hour ahead", x.come(0, 0), 1);
            x.hour(1);
            Due.promise(10, "R " + rust + ": RUSTED", x.told(9), 1);
            Due.promise(11, "R " + rust + ": none comes", x.come(1, 0), NOT);
            Due.promise(6, "R " + rust + ": who WAITS stays", x.gate(0, 3), 1);
            x.hour(1);
            Due.promise(10, "R " + rust + ": RUSTED an hour later", x.told(9), 1);
            Due.promise(10, "R " + rust + ": nobody met", x.told(4), 0);
        }
    }

    private static void usedInTheLastHour() {
        for (int rust : new int[] {1, 2, 99}) {
            KissGates x = Due.of("g" + rust + ";" + TWO);
            x.come(0, 0);
            pass(x, rust - 1);
            x.come(1, 0);
            x.hour(1);
            Due.promise(10, "R " + rust + ": they met in the last hour", x.told(4), 1);
            Due.promise(10, "R " + rust + ": not RUSTED", x.told(9), 0);
            Due.promise(6, "R " + rust + ": used just now", x.gate(0, 1), 0);
            pass(x, rust - 1);
            Due.promise(10, "R " + rust + ": not RUSTED an hour ahead of R more", x.told(9), 0);
            x.hour(1);
            Due.promise(10, "R " + rust + ": RUSTED behind R more", x.told(9), 1);
        }
    }

    private static void onePairAGateAnHour() {
        String text = "p1 0;p1 0;p0 0;p0 0;l0 2 1;l2 0 1;l1 3 1;l3 1 1;";
        KissGates one = Due.of("g9;g9;" + text);
        KissGates two = Due.of("g9;g9;" + text);
        for (int p = 0; p < 4; p++) {
            one.come(p, 0);
            two.come(p, p % 2);
        }
        one.hour(1);
        two.hour(1);
        Due.promise(10, "one pair at one gate", one.told(4), 1);
        Due.promise(10, "who WAIT still", one.told(8), 10);
        Due.promise(10, "the other gate was not used", one.gate(1, 1), 1);
        Due.promise(10, "a pair at each gate", two.told(4), 2);
        Due.promise(10, "nobody WAITS", two.told(8), 0);
        Due.promise(10, "gate by gate: the latest", two.logged(0), 13);
        Due.promise(10, "gate by gate: ahead of it", two.logged(1), 2);
        one.hour(1);
        Due.promise(10, "the second pair an hour later", one.told(4), 2);
        Due.promise(10, "all on the other side", one.told(6), 12);
        one.hour(1);
        Due.promise(10, "no third", one.told(4), 2);
    }

    private static int whoMeets(String likings) {
        KissGates x = Due.of("g9;p1 0;p1 0;p0 0;p0 0;" + likings);
        for (int p = 0; p < 4; p++) {
            x.come(p, 0);
        }
        x.hour(1);
        return x.logged(0);
    }

    private static void mostTogetherMeet() {
        Due.promise(10, "13 by one more", whoMeets("l0 2 3;l2 0 3;l1 3 4;l3 1 3;"), 13);
        Due.promise(10, "02 by one more", whoMeets("l0 2 3;l2 0 4;l1 3 3;l3 1 3;"), 2);
        Due.promise(10, "together, not the more of the two", whoMeets("l0 2 9;l2 0 1;l1 3 5;l3 1 6;"), 13);
        Due.promise(10, "together, not the less of the two", whoMeets("l0 2 1;l2 0 9;l1 3 4;l3 1 4;"), 2);
        Due.promise(10, "who does not WOULD is no pair", whoMeets("l0 2 9;l2 0 0;l1 3 1;l3 1 1;"), 13);
        Due.promise(10, "those of one side are no pair", whoMeets("l0 1 9;l1 0 9;l2 3 9;l3 2 9;l1 3 1;l3 1 1;"), 13);
    }

    private static void ofLikePairsTheLeast() {
        Due.promise(10, "the least first", whoMeets("l0 3 3;l3 0 3;l1 2 3;l2 1 3;"), 3);
        Due.promise(10, "the least second", whoMeets("l1 3 2;l3 1 4;l1 2 4;l2 1 2;"), 12);
        Due.promise(10, "the first is ahead of the second", whoMeets("l1 2 9;l2 1 9;l0 3 9;l3 0 9;"), 3);
    }

    private static void thoseAtOneGateMeet() {
        KissGates x = Due.of("g9;g9;" + TWO);
        x.hour(1);
        Due.promise(10, "who WAIT at none", x.told(4), 0);
        x.come(0, 0);
        x.hour(1);
        Due.promise(10, "one alone", x.told(4), 0);
        x.come(1, 1);
        x.hour(1);
        Due.promise(10, "each at another gate", x.told(4), 0);
        x.come(1, 0);
        x.hour(1);
        Due.promise(10, "at one gate", x.told(4), 1);
        Due.promise(7, "0 is outside", x.person(0, 0), 0);
        Due.promise(7, "1 is inside", x.person(1, 0), 1);
        Due.promise(7, "0 WAITS at none", x.person(0, 1), NONE);
        Due.promise(7, "1 WAITS at none", x.person(1, 1), NONE);
        x.hour(1);
        Due.promise(10, "they WAIT no more", x.told(4), 1);
    }

    private static void coldsPassInAMeeting() {
        for (int colds = 0; colds <= 3; colds++) {
            KissGates x = Due.of("g9;p1 " + colds % 2 + ";p0 " + colds / 2 + ";p0 0;l0 1 1;l1 0 1;");
            for (int p = 0; p < 3; p++) {
                x.come(p, 0);
            }
            Due.promise(10, "colds ahead", x.told(7), colds);
            x.hour(1);
            Due.promise(10, "colds of both by " + colds, x.told(7), colds == 0 ? 0 : 3);
        }
        KissGates apart = Due.of("g9;p1 1;p0 0;l0 1 1;");
        apart.come(0, 0);
        apart.come(1, 0);
        apart.hour(9);
        Due.promise(10, "no cold by waiting side by side", apart.told(7), 1);
    }

    private static void comeFromTheFirstToTheLast() {
        KissGates x = Due.of("g9;g9;g9;g9;g9;" + "p0 0;".repeat(7));
        for (int no : new int[] {LEAST, -2, -1, 7, 8, MOST}) {
            Due.promise(11, "come(" + no + ", 0)", x.come(no, 0), UNKNOWN);
        }
        for (int no : new int[] {LEAST, -2, -1, 5, 6, MOST}) {
            Due.promise(11, "come(0, " + no + ")", x.come(0, no), UNKNOWN);
            Due.promise(11, "come(7, " + no + ")", x.come(7, no), UNKNOWN);
        }
        Due.promise(5, "nobody WAITS", x.told(8), 0);
        Due.promise(11, "come(0, 0)", x.come(0, 0), 1);
        Due.promise(11, "come(6, 0)", x.come(6, 0), 65);
        Due.promise(11, "come(6, 4)", x.come(6, 4), 64);
        Due.promise(11, "come(0, 4)", x.come(0, 4), 65);
    }

    private static void comeToAGateThatRusts() {
        KissGates x = Due.of("g2;g9;" + TWO);
        x.hour(1);
        Due.promise(11, "an hour ahead of rust", x.come(0, 0), 1);
        x.hour(1);
        Due.promise(11, "RUSTED", x.come(1, 0), NOT);
        Due.promise(11, "RUSTED, and it WAITS there", x.come(0, 0), NOT);
        Due.promise(11, "UNKNOWN ahead of NOT", x.come(2, 0), UNKNOWN);
        Due.promise(11, "UNKNOWN ahead of NOT", x.come(-1, 0), UNKNOWN);
        Due.promise(11, "off from a RUSTED one", x.come(0, 1), 1);
        Due.promise(11, "not back to it", x.come(0, 0), NOT);
        Due.promise(7, "it WAITS where it was", x.person(0, 1), 1);
        x.oil(0);
        Due.promise(11, "OILED", x.come(0, 0), 1);
    }

    private static void comeWhereItWaits() {
        KissGates x = Due.of("g9;g9;" + TWO);
        Due.promise(11, "from none", x.come(0, 0), 1);
        Due.promise(11, "it WAITS there", x.come(0, 0), NOT);
        Due.promise(11, "from another gate", x.come(0, 1), 1);
        Due.promise(6, "nobody is left", x.gate(0, 3), 0);
        Due.promise(11, "it WAITS there then", x.come(0, 1), NOT);
        Due.promise(11, "back again", x.come(0, 0), 1);
        x.goOff(0);
        Due.promise(11, "from none again", x.come(0, 0), 1);
        Due.promise(5, "how many were not refused", x.told(13), 5);
    }

    private static void goOffOnce() {
        KissGates x = Due.of("g1;g9;g9;g9;g9;" + "p0 0;".repeat(7));
        for (int p : new int[] {LEAST, -2, -1, 7, 8, MOST}) {
            Due.promise(12, "goOff(" + p + ")", x.goOff(p), UNKNOWN);
        }
        for (int p : new int[] {0, 6}) {
            Due.promise(12, p + " WAITS at none", x.goOff(p), NOT);
            x.come(p, 4);
            Due.promise(12, p + " at the last gate", x.goOff(p), 4);
            Due.promise(12, p + " WAITS at none then", x.goOff(p), NOT);
        }
        x.come(6, 0);
        x.hour(1);
        Due.promise(12, "off from a RUSTED one", x.goOff(6), 0);
        Due.promise(5, "nobody WAITS", x.told(8), 0);
        KissGates two = Due.of("g9;" + TWO);
        two.come(0, 0);
        two.come(1, 0);
        two.hour(1);
        Due.promise(12, "who has met WAITS at none", two.goOff(0), NOT);
    }

    private static void holeForWhoWaitsAtNone() {
        KissGates x = Due.of("g9;p0 0;p1 1;p0 0;p0 0;p0 0;p0 0;p1 0;");
        for (int p : new int[] {LEAST, -2, -1, 7, 8, MOST}) {
            Due.promise(13, "hole(" + p + ")", x.hole(p), UNKNOWN);
        }
        Due.promise(5, "HOLES at first", x.told(5), 0);
        Due.promise(13, "the first, from outside", x.hole(0), 1);
        Due.promise(13, "the last, from inside", x.hole(6), 0);
        Due.promise(13, "the first back again", x.hole(0), 0);
        Due.promise(13, "the last back again", x.hole(6), 1);
        Due.promise(5, "HOLES", x.told(5), 4);
        x.come(0, 0);
        Due.promise(13, "it WAITS", x.hole(0), NOT);
        Due.promise(5, "HOLES behind NOT", x.told(5), 4);
        Due.promise(5, "who is inside behind NOT", x.told(6), 66);
        x.goOff(0);
        Due.promise(13, "it WAITS at none then", x.hole(0), 1);
        Due.promise(5, "HOLES then", x.told(5), 5);
        Due.promise(5, "no MEETINGS", x.told(4), 0);
        Due.promise(5, "colds stay", x.told(7), 2);
    }

    private static void oilAheadOfAndBehindRust() {
        KissGates x = Due.of("g3;g9;g9;g9;g9;");
        for (int g : new int[] {LEAST, -2, -1, 5, 6, MOST}) {
            Due.promise(14, "oil(" + g + ")", x.oil(g), UNKNOWN);
        }
        Due.promise(14, "the last gate", x.oil(4), 0);
        Due.promise(14, "just made", x.oil(0), 0);
        x.hour(2);
        Due.promise(14, "an hour ahead of rust", x.oil(0), 0);
        Due.promise(6, "as if used just now", x.gate(0, 1), 0);
        x.hour(2);
        Due.promise(6, "not RUSTED two hours later", x.gate(0, 2), 0);
        x.hour(1);
        Due.promise(6, "RUSTED three hours later", x.gate(0, 2), 1);
        Due.promise(14, "RUSTED", x.oil(0), 1);
        Due.promise(6, "not RUSTED then", x.gate(0, 2), 0);
        Due.promise(6, "as if used just now", x.gate(0, 1), 0);
        Due.promise(14, "OILED twice", x.oil(0), 0);
        x.hour(4);
        Due.promise(14, "an hour behind rust", x.oil(0), 1);
        Due.promise(6, "the others go on", x.gate(1, 1), 9);
    }

    private static void wellOnce() {
        KissGates x = Due.of("p0 1;p0 0;p0 0;p0 0;p0 0;p0 0;p0 1;");
        for (int p : new int[] {LEAST, -2, -1, 7, 8, MOST}) {
            Due.promise(15, "well(" + p + ")", x.well(p), UNKNOWN);
        }
        Due.promise(5, "colds", x.told(7), 65);
        Due.promise(15, "the last", x.well(6), 1);
        Due.promise(5, "colds then", x.told(7), 1);
        Due.promise(15, "the last again", x.well(6), 0);
        Due.promise(15, "who has none", x.well(1), 0);
        Due.promise(15, "the first", x.well(0), 1);
        Due.promise(5, "no colds", x.told(7), 0);
    }

    private static void driftFrom1To60() {
        KissGates x = Due.of("g99;p0 0;");
        Due.promise(16, "drift(1)", x.drift(1), 0);
        Due.promise(5, "HOURS", x.told(3), 1);
        Due.promise(16, "drift(2)", x.drift(2), 0);
        Due.promise(5, "HOURS", x.told(3), 3);
        Due.promise(16, "drift(59)", x.drift(59), 0);
        Due.promise(5, "HOURS", x.told(3), 62);
        Due.promise(16, "drift(60)", x.drift(60), 0);
        Due.promise(5, "HOURS", x.told(3), 122);
        KissGates two = Due.of("g99;" + TWO);
        two.come(0, 0);
        two.come(1, 0);
        two.hour(1);
        Due.promise(16, "all MEETINGS are told", two.drift(1), 1);
    }

    private static long next(long seed) {
        return (seed * 1103515245L + 12345L) % 2147483648L;
    }

    private static void driftDrawsFromEverySeed() {
        for (int seed : new int[] {0, 1, 2, 65535, 65536, 1073741823, 1073741824, 2147483646, 2147483647}) {
            for (int gates = 1; gates <= 5; gates += 2) {
                int persons = 8 - gates;
                KissGates x = Due.of("g99;".repeat(gates) + "p0 0;".repeat(persons));
                x.seed(seed);
                Due.promise(16, "drift(1) from " + seed, x.drift(1), 0);
                long first = next(seed);
                long second = next(first);
                int p = (int) (first / 65536 % persons);
                int g = (int) (second / 65536 % gates);
                Due.promise(16, "who came from " + seed, x.told(8), 1 << p);
                Due.promise(16, "where it came from " + seed, x.person(p, 1), g);
                Due.promise(33, "THE SEED behind two draws from " + seed, x.seed(0), second);
            }
        }
    }

    private static void driftByWhoCannotCome() {
        KissGates rusted = Due.of("g1;p0 0;");
        rusted.hour(1);
        rusted.drift(1);
        Due.promise(16, "to a RUSTED gate", rusted.told(8), 0);
        Due.promise(33, "both draws are made", rusted.seed(0), next(next(0)));
        KissGates lastHour = Due.of("g2;p0 0;");
        lastHour.hour(1);
        lastHour.drift(1);
        Due.promise(16, "an hour ahead of rust", lastHour.told(8), 1);
        Due.promise(16, "RUSTED behind it", lastHour.told(9), 1);
        KissGates there = Due.of("g9;p0 0;");
        there.come(0, 0);
        there.drift(3);
        Due.promise(16, "who WAITS there stays", there.told(8), 1);
        Due.promise(33, "two draws an hour", there.seed(0), next(next(next(next(next(next(0)))))));
        KissGates away = Due.of("g9;p0 0;");
        away.drift(1);
        Due.promise(16, "one draw of PERSONS and of GATES each", away.told(8), 1);
    }

    private static void driftWithoutPersons() {
        KissGates x = Due.of("g9;");
        x.seed(5);
        Due.promise(16, "no PERSONS", x.drift(60), 0);
        Due.promise(5, "HOURS with no PERSONS", x.told(3), 60);
        Due.promise(33, "no draw", x.seed(0), 5);
    }

    private static void undoneOneByOne() {
        KissGates x = Due.of("g9;" + TWO);
        Due.promise(17, "none", x.undo(), NOT);
        x.hole(0);
        Due.promise(17, "one", x.undo(), 0);
        Due.promise(5, "who is inside", x.told(6), 1);
        Due.promise(17, "none again", x.undo(), NOT);
        x.hole(0);
        x.hole(1);
        Due.promise(17, "the latest of two", x.undo(), 1);
        Due.promise(5, "who is inside", x.told(6), 0);
        x.come(0, 0);
        Due.promise(17, "the latest, done behind undo()", x.undo(), 1);
        Due.promise(17, "the oldest", x.undo(), 0);
        Due.promise(5, "as at first", x.told(6), 1);
        Due.promise(5, "no HOLES", x.told(5), 0);
    }

    private static void twentyCanBeUndone() {
        for (int deeds : new int[] {0, 1, 19, 20, 21, 22, 40, 41}) {
            KissGates x = Due.of("g99;p0 0;");
            for (int i = 0; i < deeds; i++) {
                x.hour(1);
                Due.promise(5, "how many can be undone of " + (i + 1), x.told(13), Math.min(20, i + 1));
            }
            int can = Math.min(20, deeds);
            for (int left = can - 1; left >= 0; left--) {
                Due.promise(17, "undo() of " + deeds, x.undo(), left);
                Due.promise(17, "HOURS with " + left + " left of " + deeds, x.told(3), deeds - can + left);
            }
            Due.promise(17, "no more of " + deeds, x.undo(), NOT);
            Due.promise(17, "HOURS then", x.told(3), deeds - can);
        }
    }

    /** One waits, two have a cold, a gate is rusted, one is just oiled; a meeting, holes. */
    private static KissGates amid() {
        KissGates x = Due.of("g2;g9;g9;p1 1;p0 0;p0 0;p1 0;l0 1 1;l1 0 1;l2 3 1;l3 2 1;");
        x.come(0, 1);
        x.come(1, 1);
        x.hour(2);
        x.hole(3);
        x.hole(3);
        x.come(2, 1);
        x.oil(2);
        return x;
    }

    private static void undoes(String deed, boolean changes, Consumer<KissGates> what) {
        KissGates x = amid();
        List<Integer> ahead = Whole.ofSectionTwo(x);
        int could = x.told(13);
        what.accept(x);
        Due.promise(17, deed + " can be undone", x.told(13), could + 1);
        Due.holds(deed + " changes something: " + changes, !Whole.ofSectionTwo(x).equals(ahead) == changes);
        Due.promise(17, "undo() of " + deed, x.undo(), could);
        Due.promise(17, "as ahead of " + deed, Whole.ofSectionTwo(x).equals(ahead) ? 1 : 0, 1);
    }

    private static void eachDeedCanBeUndone() {
        undoes("hour(1)", true, x -> x.hour(1));
        undoes("hour(60)", true, x -> x.hour(60));
        undoes("come(3, 1)", true, x -> x.come(3, 1));
        undoes("come(2, 2)", true, x -> x.come(2, 2));
        undoes("goOff(2)", true, x -> x.goOff(2));
        undoes("hole(0)", true, x -> x.hole(0));
        undoes("oil(0)", true, x -> x.oil(0));
        undoes("oil(1)", true, x -> x.oil(1));
        undoes("oil(2) of a gate just oiled", false, x -> x.oil(2));
        undoes("well(0)", true, x -> x.well(0));
        undoes("well(2) who has no cold", false, x -> x.well(2));
        undoes("drift(1)", true, x -> x.drift(1));
        undoes("drift(60)", true, x -> x.drift(60));
        KissGates seed = amid();
        seed.seed(9);
        seed.drift(1);
        seed.undo();
        Due.promise(17, "THE SEED stays as it is behind drift()", seed.seed(0), next(next(9)));
        KissGates set = amid();
        set.hole(0);
        set.seed(9);
        set.undo();
        Due.promise(17, "THE SEED stays as it was set", set.seed(0), 9);
    }

    private static void meetingsOfAFullLogAreUndone() {
        KissGates x = Due.of("g99;p1 0;p0 0;p0 0;l0 1 1;l1 0 1;l0 2 1;l2 0 1;");
        Due.meet(x, 0, 1);
        x.hole(0);
        x.hole(1);
        for (int i = 0; i < 19; i++) {
            Due.meet(x, 0, 2);
        }
        Due.promise(9, "the oldest of 20", x.logged(19), 1);
        Due.meet(x, 0, 2);
        Due.promise(9, "the oldest of 21 is lost", x.logged(19), 2);
        x.undo();
        Due.promise(17, "the oldest of 20 is back", x.logged(19), 1);
        Due.promise(17, "how many THE LOG has then", x.told(10), 20);
        Due.promise(17, "MEETINGS then", x.told(4), 20);
    }

    private static void whatIsNoDeedIsNotUndone() {
        KissGates x = Due.of("g9;" + TWO);
        x.hole(0);
        x.feed('g');
        x.seed(4);
        x.ill(0, true);
        x.write(0, 1);
        x.atOnce(-1);
        x.sides(3, 3);
        x.ask();
        x.tear();
        x.ill(1, false);
        x.write(1, 1);
        Due.promise(5, "how many can be undone", x.told(13), 1);
        Due.promise(17, "the hole alone", x.undo(), 0);
        Due.promise(5, "the letter stays", x.told(2), 1);
        Due.promise(5, "what is known stays", x.told(11), 1);
        Due.promise(5, "THE BOOK stays", x.told(12), 1);
        Due.promise(33, "THE SEED stays", x.seed(0), 4);
        x.hole(0);
        x.hour(0);
        x.come(2, 0);
        x.goOff(0);
        x.hole(2);
        x.oil(1);
        x.well(2);
        x.drift(61);
        Due.promise(5, "what is refused is not undone", x.told(13), 1);
        x.feed('x');
        x.common();
        Due.promise(5, "nor by a common() with a FAULT", x.told(13), 1);
    }

    private static void nothingIsUndoneBehindImages() {
        KissGates x = Due.of("g9;" + TWO);
        x.hole(0);
        x.keep(0);
        Due.promise(34, "nothing can be undone behind keep()", x.told(13), 0);
        Due.promise(17, "undo() behind keep()", x.undo(), NOT);
        x.hole(1);
        Due.promise(5, "a deed behind keep()", x.told(13), 1);
        x.goBack(0);
        Due.promise(35, "nothing can be undone behind goBack()", x.told(13), 0);
        Due.promise(17, "undo() behind goBack()", x.undo(), NOT);
        x.hole(1);
        Due.promise(17, "a deed behind goBack()", x.undo(), 0);
        Due.promise(5, "as it was behind goBack()", x.told(6), 0);
        x.hole(1);
        x.common();
        Due.promise(17, "undo() behind common()", x.undo(), NOT);
    }
}
