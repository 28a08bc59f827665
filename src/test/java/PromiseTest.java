/** For each promise of the document: ordinary inputs, the edges that it names, wrong inputs. */
public final class PromiseTest implements Answers {
    /** Two gates; 0 and 2 outside, 1 and 3 inside, 1 has a cold; all WOULD meet across, 0 with 1 most. */
    private static final String FOUR = "g3;g5;p0 0;p1 1;p0 0;p1 0;"
        + "l0 1 4;l1 0 4;l0 3 1;l3 0 1;l2 1 2;l1 2 3;l2 3 5;l3 2 1;";

    public static void main(String[] args) {
        newObject();
        feed();
        commonClauses();
        commonFaults();
        commonAnew();
        commonRefused();
        fault();
        told();
        gate();
        person();
        likes();
        logged();
        hourMeets();
        hourRusts();
        hourRefuses();
        come();
        goOff();
        hole();
        oil();
        well();
        drift();
        driftRefuses();
        undo();
        undoTwenty();
        atOnce();
        atOnceOfLikeOnes();
        sides();
        steady();
        loves();
        first();
        dies();
        oilFor();
        evening();
        dry();
        ill();
        mayBe();
        ask();
        write();
        tear();
        judge();
        seed();
        keep();
        goBack();
        Due.end("PromiseTest");
    }

    private static void newObject() {
        KissGates x = new KissGates();
        for (int what = 0; what <= 13; what++) {
            Due.is("new: told(" + what + ")", x.told(what), 0);
        }
        Due.is("new: fault()", x.fault(), NONE);
        Due.is("new: gate(0, 0)", x.gate(0, 0), UNKNOWN);
        Due.is("new: person(0, 0)", x.person(0, 0), UNKNOWN);
        Due.is("new: likes(0, 1)", x.likes(0, 1), UNKNOWN);
        Due.is("new: logged(0)", x.logged(0), NONE);
        Due.is("new: seed(0)", x.seed(0), 0);
        Due.is("new: goBack(0)", x.goBack(0), NOT);
        Due.is("new: goBack(1)", x.goBack(1), NOT);
        Due.is("new: atOnce(-2)", x.atOnce(-2), 0);
        Due.is("new: keep(0)", x.keep(0), 1);
        Due.is("new: goBack(0) of a kept nothing", x.goBack(0), 1);
        Due.is("NONE", KissGates.NONE, NONE);
        Due.is("UNKNOWN", KissGates.UNKNOWN, UNKNOWN);
        Due.is("OUTSIDE", KissGates.OUTSIDE, OUTSIDE);
        Due.is("NOT", KissGates.NOT, NOT);
        Due.is("FULL", KissGates.FULL, FULL);
    }

    private static void feed() {
        KissGates x = new KissGates();
        Due.is("feed(-1)", x.feed(-1), OUTSIDE);
        Due.is("feed(256)", x.feed(256), OUTSIDE);
        Due.is("feed(0)", x.feed(0), 1);
        Due.is("feed(255)", x.feed(255), 2);
        for (int i = 3; i <= 240; i++) {
            Due.is("feed of letter " + i, x.feed(' '), i);
        }
        Due.is("feed of letter 241", x.feed(' '), FULL);
        Due.is("OUTSIDE ahead of FULL", x.feed(256), OUTSIDE);
        Due.is("told(2)", x.told(2), 240);
        Due.is("common() of letters 0, 255", x.common(), -11);
        Due.is("feed behind common()", x.feed(' '), 1);
    }

    private static void commonClauses() {
        KissGates x = Due.of("  g 1 ; g099;p 1 0;p0 01 ; l 0 001 9 ;l1 0 0;");
        Due.is("gates", x.told(0), 2);
        Due.is("persons", x.told(1), 2);
        Due.is("R of 0", x.gate(0, 0), 1);
        Due.is("R of 1", x.gate(1, 0), 99);
        Due.is("inside", x.told(6), 1);
        Due.is("colds", x.told(7), 2);
        Due.is("likes(0, 1)", x.likes(0, 1), 9);
        Due.is("likes(1, 0)", x.likes(1, 0), 0);
        Due.is("blanks alone", Due.of("   ").told(1), 0);
        KissGates most = Due.of("g1;g1;g1;g1;g1;p0 0;p0 0;p0 0;p0 0;p0 0;p0 0;p0 0;");
        Due.is("five gates", most.told(0), 5);
        Due.is("seven persons", most.told(1), 7);
    }

    private static void faultOf(String text, int number, int at) {
        KissGates x = new KissGates();
        Due.feed(x, text);
        Due.is("common() of '" + text + "'", x.common(), -10 - number);
        Due.is("fault() of '" + text + "'", x.fault(), at);
        Due.is("told(2) behind '" + text + "'", x.told(2), 0);
    }

    private static void commonFaults() {
        faultOf("x", 1, 0);
        faultOf(";", 1, 0);
        faultOf("1", 1, 0);
        faultOf("G1;", 1, 0);
        faultOf("\tg1;", 1, 0);
        faultOf("g", 1, 1);
        faultOf("g1", 1, 2);
        faultOf("g1  ", 1, 4);
        faultOf("g;", 1, 1);
        faultOf("g1;;", 1, 3);
        faultOf("g1 2;", 1, 3);
        faultOf("g1 1234;", 1, 3);
        faultOf("g-1;", 1, 1);
        faultOf("p0;", 1, 2);
        faultOf("p00;", 1, 3);
        faultOf("p0 0 0;", 1, 5);
        faultOf("p0 0;p0 0;l0 1;", 1, 14);
        faultOf("p0 0;p0 0;l0 1 ", 1, 15);
        faultOf("g0;", 2, 1);
        faultOf("g100;", 2, 1);
        faultOf("g 0001;", 2, 2);
        faultOf("g0001", 2, 1);
        faultOf("g12345678901234567890;", 2, 1);
        faultOf("g0x", 2, 1);
        faultOf("p2 0;", 2, 1);
        faultOf("p0 2;", 2, 3);
        faultOf("l0 0 1;", 2, 1);
        faultOf("p0 0;l1 0 1;p0 0;", 2, 6);
        faultOf("p0 0;l0 1 1;p0 0;", 2, 8);
        faultOf("p0 0;l0 0000 1;", 2, 8);
        faultOf("p0 0;p0 0;l0 1 10;", 2, 15);
        faultOf("g1;g1;g1;g1;g1;g1;", 3, 15);
        faultOf("g1;g1;g1;g1;g1; gx", 3, 16);
        faultOf("g1;g1;g1;g1;g1 g1;", 1, 15);
        faultOf("p0 0;p0 0;p0 0;p0 0;p0 0;p0 0;p0 0;p", 3, 35);
        faultOf("p0 0;l0 0 1;", 4, 8);
        faultOf("p0 0;l0 00 x", 4, 8);
        faultOf("p0 0;p0 0;l0 1 1;l1 0 1;l0 1 1;", 4, 27);
        faultOf("p0 0;p0 0;l0 1 0;l0  1 99;", 4, 21);
    }

    /** A common on which all that can be has been done. */
    private static KissGates busy() {
        KissGates x = Due.of(FOUR);
        x.seed(77);
        x.keep(0);
        x.come(0, 0);
        x.come(1, 0);
        x.hour(1);
        x.hole(2);
        x.come(3, 1);
        x.ill(0, true);
        x.write(1, 1);
        x.write(2, 0);
        return x;
    }

    private static void commonAnew() {
        KissGates x = busy();
        Due.feed(x, "g7;p1 1;");
        Due.is("common() anew", x.common(), 1);
        int[] due = {1, 1, 0, 0, 0, 0, 1, 1, 0, 0, 0, 0, 0, 0};
        for (int what = 0; what < due.length; what++) {
            Due.is("anew: told(" + what + ")", x.told(what), due[what]);
        }
        Due.is("anew: gate(0, 1)", x.gate(0, 1), 0);
        Due.is("anew: person(0, 1)", x.person(0, 1), NONE);
        Due.is("anew: goBack(0)", x.goBack(0), NOT);
        Due.is("anew: undo()", x.undo(), NOT);
        Due.is("anew: mayBe()", x.mayBe(), 1);
        Due.is("anew: judge()", x.judge(), NONE);
        Due.is("anew: THE SEED stays", x.seed(0), 77);
        Due.is("an empty text", x.common(), 0);
        Due.is("no COMMON: gates", x.told(0), 0);
        Due.is("no COMMON: hour(1)", x.hour(1), NOT);
        Due.feed(x, "p0 0;p1 0;l0 1 1;l1 0 1;");
        x.common();
        Due.feed(x, "p0 0;p1 0;");
        x.common();
        Due.is("likes of an earlier common", x.likes(0, 1), 0);
        Due.is("WOULD of an earlier common", x.person(0, 3), 0);
    }

    private static void commonRefused() {
        KissGates x = busy();
        KissGates y = busy();
        Due.feed(x, "g1;p0 0;l0 0 1;");
        Due.is("a fault", x.common(), -14);
        for (int what = 0; what <= 13; what++) {
            Due.is("as it was: told(" + what + ")", x.told(what), y.told(what));
        }
        Due.is("as it was: likes(0, 1)", x.likes(0, 1), 4);
        Due.is("as it was: gate(0, 0)", x.gate(0, 0), 3);
        Due.is("as it was: judge()", x.judge(), y.judge());
        Due.is("as it was: mayBe()", x.mayBe(), y.mayBe());
        Due.is("as it was: undo()", x.undo(), y.undo());
        Due.is("as it was: goBack(0)", x.goBack(0), 1);
        Due.is("as it was: told(3)", x.told(3), 0);
    }

    private static void fault() {
        KissGates x = new KissGates();
        Due.feed(x, "g1;p0 0;y");
        x.common();
        Due.is("fault()", x.fault(), 8);
        Due.feed(x, "g1;p0 0;");
        Due.is("fault() while a text is fed", x.fault(), 8);
        x.common();
        Due.is("fault() of a good text", x.fault(), NONE);
        Due.feed(x, "g1;p");
        x.common();
        Due.is("fault() at the end", x.fault(), 4);
        x.common();
        Due.is("fault() of an empty text", x.fault(), NONE);
    }

    private static void told() {
        KissGates x = busy();
        x.feed('g');
        x.feed('g');
        x.hour(2);
        int[] due = {2, 4, 2, 3, 1, 1, 1 | 4 | 8, 3, 8, 0, 1, 1, 2, 6};
        for (int what = 0; what < due.length; what++) {
            Due.is("told(" + what + ")", x.told(what), due[what]);
        }
        x.hour(1);
        Due.is("told(9) with a rusted gate", x.told(9), 1);
        x.hour(2);
        Due.is("told(9) with both", x.told(9), 3);
        Due.is("told(-1)", x.told(-1), OUTSIDE);
        Due.is("told(14)", x.told(14), OUTSIDE);
    }

    private static void gate() {
        KissGates x = Due.of(FOUR);
        Due.is("gate(1, 0)", x.gate(1, 0), 5);
        Due.is("gate(1, 1) at first", x.gate(1, 1), 0);
        x.come(0, 0);
        x.come(3, 1);
        x.come(2, 0);
        Due.is("gate(0, 3)", x.gate(0, 3), 5);
        Due.is("gate(1, 3)", x.gate(1, 3), 8);
        x.hour(2);
        Due.is("gate(0, 1)", x.gate(0, 1), 2);
        Due.is("gate(0, 2) ahead of R", x.gate(0, 2), 0);
        x.hour(1);
        Due.is("gate(0, 2) at R", x.gate(0, 2), 1);
        x.hour(10);
        Due.is("gate(0, 1) is R at most", x.gate(0, 1), 3);
        Due.is("gate(1, 1) is R at most", x.gate(1, 1), 5);
        Due.is("gate(0, 3) of a rusted one", x.gate(0, 3), 5);
        Due.is("gate(2, 0)", x.gate(2, 0), UNKNOWN);
        Due.is("gate(-1, 0)", x.gate(-1, 0), UNKNOWN);
        Due.is("gate(0, 4)", x.gate(0, 4), OUTSIDE);
        Due.is("gate(0, -1)", x.gate(0, -1), OUTSIDE);
        Due.is("gate(2, 4)", x.gate(2, 4), UNKNOWN);
    }

    private static void person() {
        KissGates x = Due.of("g9;p0 0;p1 1;p0 0;p1 0;l0 1 1;l1 0 1;l0 2 5;l2 0 5;l0 3 9;l3 2 1;l2 3 1;");
        Due.is("person(0, 0)", x.person(0, 0), 0);
        Due.is("person(1, 0)", x.person(1, 0), 1);
        Due.is("person(0, 1)", x.person(0, 1), NONE);
        Due.is("person(0, 2)", x.person(0, 2), 0);
        Due.is("person(1, 2)", x.person(1, 2), 1);
        Due.is("whom 0 WOULD meet: not 2 of its side, not 3 who does not like it", x.person(0, 3), 2);
        Due.is("whom 3 WOULD meet", x.person(3, 3), 4);
        x.hole(2);
        Due.is("whom 0 WOULD meet behind the hole", x.person(0, 3), 6);
        Due.is("whom 3 WOULD meet behind the hole", x.person(3, 3), 0);
        x.come(3, 0);
        Due.is("person(3, 1)", x.person(3, 1), 0);
        Due.is("person(4, 0)", x.person(4, 0), UNKNOWN);
        Due.is("person(-1, 0)", x.person(-1, 0), UNKNOWN);
        Due.is("person(0, 4)", x.person(0, 4), OUTSIDE);
        Due.is("person(0, -1)", x.person(0, -1), OUTSIDE);
        Due.is("person(4, 4)", x.person(4, 4), UNKNOWN);
    }

    private static void likes() {
        KissGates x = Due.of(FOUR);
        Due.is("likes(2, 3)", x.likes(2, 3), 5);
        Due.is("likes(3, 2)", x.likes(3, 2), 1);
        Due.is("likes(0, 2) untold", x.likes(0, 2), 0);
        Due.is("likes(2, 2)", x.likes(2, 2), UNKNOWN);
        Due.is("likes(4, 0)", x.likes(4, 0), UNKNOWN);
        Due.is("likes(0, 4)", x.likes(0, 4), UNKNOWN);
        Due.is("likes(-1, 0)", x.likes(-1, 0), UNKNOWN);
        Due.is("likes(0, -1)", x.likes(0, -1), UNKNOWN);
    }

    private static void logged() {
        KissGates x = Due.of("g99;p0 0;p1 0;p1 0;l0 1 1;l1 0 1;l0 2 1;l2 0 1;");
        x.come(2, 0);
        x.come(0, 0);
        x.hour(1);
        Due.is("logged(0)", x.logged(0), 2);
        x.come(2, 0);
        x.hour(1);
        Due.is("none met", x.logged(1), NONE);
        Due.is("logged(-1)", x.logged(-1), NONE);
        for (int i = 0; i < 19; i++) {
            x.come(0, 0);
            x.come(2, 0);
            x.hour(1);
        }
        Due.is("told(10)", x.told(10), 20);
        Due.is("told(4)", x.told(4), 20);
        x.come(0, 0);
        x.come(1, 0);
        x.hour(1);
        Due.is("the latest of 21", x.logged(0), 1);
        Due.is("one ahead of it", x.logged(1), 2);
        Due.is("the oldest kept", x.logged(19), 2);
        Due.is("the oldest is lost", x.logged(20), NONE);
        Due.is("told(10) of 21", x.told(10), 20);
        Due.is("told(4) of 21", x.told(4), 21);
    }

    private static void hourMeets() {
        KissGates x = Due.of(FOUR);
        for (int p = 0; p < 4; p++) {
            x.come(p, 1);
        }
        Due.is("hour(1)", x.hour(1), 1);
        Due.is("who like each other most", x.logged(0), 1);
        Due.is("on the other side each", x.told(6), 1 | 8);
        Due.is("they wait at none", x.told(8), 4 | 8);
        Due.is("both have the cold", x.told(7), 3);
        Due.is("the gate is used", x.gate(1, 1), 0);
        Due.is("the other is not", x.gate(0, 1), 1);
        Due.is("a second hour", x.hour(1), 2);
        Due.is("the next two", x.logged(0), 23);
        Due.is("no cold there", x.told(7), 3);
        Due.is("a third: nobody", x.hour(1), 3);
        Due.is("meetings", x.told(4), 2);

        KissGates like = Due.of("g9;g9;p1 0;p0 0;p0 0;p1 0;l0 1 2;l1 0 2;l0 2 1;l2 0 3;l3 1 4;l1 3 1;l3 2 4;l2 3 1;");
        for (int p = 1; p < 4; p++) {
            like.come(p, 0);
        }
        like.hour(1);
        Due.is("of like ones the least first", like.logged(0), 13);
        like.come(0, 0);
        like.come(1, 1);
        like.come(3, 1);
        like.hour(1);
        Due.is("both gates swing, gate by gate", like.logged(1), 2);
        Due.is("both gates swing", like.logged(0), 13);
        Due.is("meetings of both", like.told(4), 3);
        KissGates second = Due.of("g9;p1 0;p0 0;p0 0;l0 1 2;l1 0 2;l0 2 1;l2 0 3;");
        for (int p = 0; p < 3; p++) {
            second.come(p, 0);
        }
        second.hour(1);
        Due.is("of like ones the least second", second.logged(0), 1);
        KissGates apart = Due.of("g9;g9;p1 1;p0 0;l0 1 2;l1 0 2;");
        apart.come(0, 0);
        apart.come(1, 1);
        apart.hour(3);
        Due.is("at different gates none meet", apart.told(4), 0);
        KissGates cold = Due.of("g9;p1 0;p0 1;l0 1 2;l1 0 2;");
        cold.come(0, 0);
        cold.come(1, 0);
        cold.hour(1);
        Due.is("the other one's cold", cold.told(7), 3);
    }

    private static void hourRusts() {
        KissGates x = Due.of("g2;p1 0;p0 0;l0 1 2;l1 0 2;");
        x.come(0, 0);
        x.hour(2);
        Due.is("rusted", x.told(9), 1);
        Due.is("none comes", x.come(1, 0), NOT);
        x.oil(0);
        x.hour(1);
        x.come(1, 0);
        x.hour(1);
        Due.is("used in the last hour", x.told(9), 0);
        Due.is("since then", x.gate(0, 1), 0);
        x.come(0, 0);
        x.come(1, 0);
        x.undo();
        x.hour(2);
        Due.is("rusted again", x.told(9), 1);
        KissGates stuck = Due.of("g1;g2;p1 0;p0 0;p1 0;p0 0;l0 1 2;l1 0 2;l2 3 1;l3 2 1;");
        stuck.come(0, 0);
        stuck.hour(1);
        Due.is("R of one hour", stuck.told(9), 1);
        stuck.come(2, 1);
        stuck.come(3, 1);
        stuck.hour(1);
        Due.is("a rusted one does not swing, another does", stuck.logged(0), 23);
    }

    private static void hourRefuses() {
        KissGates x = Due.of("g1;");
        Due.is("hour(0)", x.hour(0), OUTSIDE);
        Due.is("hour(61)", x.hour(61), OUTSIDE);
        Due.is("hour(-1)", x.hour(-1), OUTSIDE);
        Due.is("hour(60)", x.hour(60), 60);
        for (int i = 2; i <= 150; i++) {
            x.hour(60);
        }
        Due.is("told(3)", x.told(3), 9000);
        Due.is("at 9000", x.hour(1), 9001);
        Due.is("above 9000", x.hour(1), FULL);
        Due.is("drift above 9000", x.drift(1), FULL);
        Due.is("OUTSIDE ahead of FULL", x.hour(61), OUTSIDE);
        x.undo();
        Due.is("60 more from 9000", x.hour(60), 9060);
        KissGates none = Due.of("p0 0;");
        Due.is("no gates", none.hour(1), NOT);
        Due.is("OUTSIDE ahead of NOT", none.hour(0), OUTSIDE);
        Due.is("nothing to undo", none.told(13), 0);
    }

    private static void come() {
        KissGates x = Due.of(FOUR);
        Due.is("come(1, 0)", x.come(1, 0), 2);
        Due.is("come(3, 0)", x.come(3, 0), 10);
        Due.is("come(1, 0) again", x.come(1, 0), NOT);
        Due.is("from another gate", x.come(1, 1), 2);
        Due.is("who is left", x.gate(0, 3), 8);
        x.hour(3);
        Due.is("to a rusted one", x.come(0, 0), NOT);
        Due.is("who waits at the rusted one", x.come(3, 0), NOT);
        Due.is("from a rusted one", x.come(3, 1), 10);
        Due.is("come(4, 0)", x.come(4, 0), UNKNOWN);
        Due.is("come(-1, 0)", x.come(-1, 0), UNKNOWN);
        Due.is("come(0, 2)", x.come(0, 2), UNKNOWN);
        Due.is("come(0, -1)", x.come(0, -1), UNKNOWN);
        Due.is("what is refused is not undone", x.told(13), 5);
        Due.is("one number for both is fine", x.come(1, 1), NOT);
    }

    private static void goOff() {
        KissGates x = Due.of(FOUR);
        Due.is("goOff(0) at none", x.goOff(0), NOT);
        x.come(0, 1);
        x.come(1, 0);
        Due.is("goOff(0)", x.goOff(0), 1);
        Due.is("goOff(0) again", x.goOff(0), NOT);
        Due.is("goOff(1)", x.goOff(1), 0);
        Due.is("who waits", x.told(8), 0);
        x.come(0, 0);
        x.hour(5);
        Due.is("from a rusted one", x.goOff(0), 0);
        Due.is("goOff(4)", x.goOff(4), UNKNOWN);
        Due.is("goOff(-1)", x.goOff(-1), UNKNOWN);
    }

    private static void hole() {
        KissGates x = Due.of(FOUR);
        Due.is("hole(0)", x.hole(0), 1);
        Due.is("hole(1)", x.hole(1), 0);
        Due.is("hole(0) back", x.hole(0), 0);
        Due.is("inside", x.told(6), 8);
        Due.is("holes", x.told(5), 3);
        Due.is("meetings", x.told(4), 0);
        x.come(2, 0);
        Due.is("hole(2) waits", x.hole(2), NOT);
        Due.is("holes then", x.told(5), 3);
        Due.is("hole(4)", x.hole(4), UNKNOWN);
        Due.is("hole(-1)", x.hole(-1), UNKNOWN);
        Due.is("undo()", x.undo(), 3);
        x.undo();
        Due.is("holes undone", x.told(5), 2);
    }

    private static void oil() {
        KissGates x = Due.of(FOUR);
        x.hour(2);
        Due.is("oil(0) ahead of rust", x.oil(0), 0);
        Due.is("as if used just now", x.gate(0, 1), 0);
        x.hour(3);
        Due.is("told(9)", x.told(9), 3);
        Due.is("oil(1)", x.oil(1), 1);
        Due.is("told(9) then", x.told(9), 1);
        Due.is("R hours more", x.dies(1), 5);
        Due.is("oil(2)", x.oil(2), UNKNOWN);
        Due.is("oil(-1)", x.oil(-1), UNKNOWN);
        Due.is("undo()", x.undo(), 3);
        Due.is("told(9) undone", x.told(9), 3);
    }

    private static void well() {
        KissGates x = Due.of(FOUR);
        Due.is("well(0)", x.well(0), 0);
        Due.is("well(1)", x.well(1), 1);
        Due.is("well(1) again", x.well(1), 0);
        Due.is("colds", x.told(7), 0);
        Due.is("well(4)", x.well(4), UNKNOWN);
        Due.is("well(-1)", x.well(-1), UNKNOWN);
        Due.is("all three can be undone", x.undo(), 2);
        x.undo();
        Due.is("the cold is back", x.told(7), 2);
    }

    private static int next(int seed) {
        return (int) ((seed * 1103515245L + 12345L) % 2147483648L);
    }

    private static void drift() {
        KissGates x = Due.of("g99;g99;g99;p1 0;p0 0;p0 0;p0 0;p0 0;l0 1 1;l1 0 1;");
        KissGates y = Due.of("g99;g99;g99;p1 0;p0 0;p0 0;p0 0;p0 0;l0 1 1;l1 0 1;");
        x.seed(4);
        int seed = 4;
        int meetings = 0;
        for (int i = 0; i < 60; i++) {
            seed = next(seed);
            int p = seed / 65536 % 5;
            seed = next(seed);
            y.come(p, seed / 65536 % 3);
            y.hour(1);
            meetings = y.told(4);
        }
        Due.is("drift(60)", x.drift(60), meetings);
        Due.holds("some met", meetings > 0);
        for (int what = 3; what <= 10; what++) {
            Due.is("drift(60): told(" + what + ")", x.told(what), y.told(what));
        }
        for (int p = 0; p < 5; p++) {
            Due.is("drift(60): person(" + p + ", 1)", x.person(p, 1), y.person(p, 1));
        }
        Due.is("one to undo", x.told(13), 1);
        Due.is("undo()", x.undo(), 0);
        Due.is("hours undone", x.told(3), 0);
        Due.is("THE SEED stays", x.seed(0), seed);
        KissGates rusty = Due.of("g1;p0 0;");
        rusty.hour(1);
        rusty.drift(1);
        Due.is("to a rusted gate none comes", rusty.told(8), 0);
        Due.is("both draws are made", rusty.seed(0), next(next(0)));
        KissGates empty = Due.of("g3;");
        Due.is("no persons", empty.drift(2), 0);
        Due.is("hours with no persons", empty.told(3), 2);
        Due.is("no draws", empty.seed(0), 0);
    }

    private static void driftRefuses() {
        KissGates x = Due.of(FOUR);
        Due.is("drift(0)", x.drift(0), OUTSIDE);
        Due.is("drift(61)", x.drift(61), OUTSIDE);
        Due.is("refused: hours", x.told(3), 0);
        Due.is("refused: THE SEED", x.seed(0), 0);
        KissGates none = Due.of("p0 0;");
        Due.is("no gates", none.drift(1), NOT);
        Due.is("OUTSIDE ahead of NOT", none.drift(61), OUTSIDE);
    }

    private static void undo() {
        KissGates x = Due.of(FOUR);
        x.come(0, 0);
        x.come(1, 0);
        x.hour(60);
        x.ill(0, true);
        x.write(0, 1);
        Due.is("undo() of 60 hours", x.undo(), 2);
        Due.is("hours", x.told(3), 0);
        Due.is("meetings", x.told(4), 0);
        Due.is("inside", x.told(6), 10);
        Due.is("colds", x.told(7), 2);
        Due.is("who waits", x.told(8), 3);
        Due.is("rusted", x.told(9), 0);
        Due.is("THE LOG", x.told(10), 0);
        Due.is("what is known stays", x.told(11), 1);
        Due.is("THE BOOK stays", x.told(12), 1);
        Due.is("undo() of come(1, 0)", x.undo(), 1);
        Due.is("who waits then", x.told(8), 1);
        x.goOff(0);
        Due.is("undo() of goOff(0)", x.undo(), 1);
        Due.is("who waits again", x.told(8), 1);
        Due.is("undo() of come(0, 0)", x.undo(), 0);
        Due.is("nothing more", x.undo(), NOT);
    }

    private static void undoTwenty() {
        KissGates x = Due.of("g99;p0 0;");
        for (int i = 0; i < 23; i++) {
            x.hour(1);
        }
        Due.is("20 at most", x.told(13), 20);
        for (int i = 19; i >= 0; i--) {
            Due.is("undo() to " + i, x.undo(), i);
            Due.is("hours at " + i, x.told(3), 3 + i);
        }
        Due.is("the oldest are lost", x.undo(), NOT);
        x.hour(5);
        Due.is("hours from there", x.told(3), 8);
        Due.is("undo() from there", x.undo(), 0);
        Due.is("hours then", x.told(3), 3);
    }

    private static void atOnce() {
        KissGates x = Due.of(FOUR);
        Due.is("most pairs", x.atOnce(-1), 2);
        Due.is("how much: 01 and 23", x.atOnce(-2), 14);
        Due.is("atOnce(0)", x.atOnce(0), 1);
        Due.is("atOnce(1)", x.atOnce(1), 0);
        Due.is("atOnce(2)", x.atOnce(2), 3);
        Due.is("atOnce(3)", x.atOnce(3), 2);
        Due.is("atOnce(4)", x.atOnce(4), UNKNOWN);
        Due.is("atOnce(-3)", x.atOnce(-3), UNKNOWN);
        x.hour(3);
        Due.is("one gate left", x.atOnce(-1), 1);
        Due.is("how much by one", x.atOnce(-2), 8);
        Due.is("who is left over", x.atOnce(2), NONE);
        x.hour(2);
        Due.is("no gate left", x.atOnce(-1), 0);
        Due.is("how much by none", x.atOnce(-2), 0);
        Due.is("with whom by none", x.atOnce(0), NONE);
        KissGates more = Due.of("g9;g9;p1 0;p0 0;p1 0;p0 0;l0 1 9;l1 0 9;l0 3 1;l3 0 1;l2 1 1;l1 2 1;");
        Due.is("more pairs ahead of more liking", more.atOnce(-2), 4);
        Due.is("more pairs: with whom", more.atOnce(0), 3);
    }

    private static void atOnceOfLikeOnes() {
        KissGates x = Due.of("g9;g9;p1 0;p1 0;p0 0;p0 0;"
            + "l0 2 1;l2 0 1;l0 3 1;l3 0 1;l1 2 1;l2 1 1;l1 3 1;l3 1 1;");
        Due.is("the lesser other one", x.atOnce(0), 2);
        Due.is("the next then", x.atOnce(1), 3);
        KissGates one = Due.of("g9;p1 0;p1 0;p0 0;p0 0;"
            + "l0 3 1;l3 0 1;l1 2 1;l2 1 1;");
        Due.is("none last", one.atOnce(0), 3);
        Due.is("none for the next", one.atOnce(1), NONE);
    }

    private static void sides() {
        String text = "g4;g9;p1 0;p0 0;p0 0;p0 0;l0 1 1;l1 0 1;l1 2 1;l2 1 1;l2 3 1;l3 2 1;";
        KissGates x = Due.of(text);
        Due.is("as they are", x.sides(15, 1), 0);
        Due.is("no set", x.sides(0, 0), 0);
        Due.is("no set, others inside", x.sides(0, 15), 0);
        Due.is("1 inside", x.sides(2, 2), 1);
        Due.is("2 inside", x.sides(4, 4), 2);
        Due.is("3 inside", x.sides(8, 8), 3);
        Due.is("3 inside, all others out", x.sides(15, 8), 3);
        Due.is("those not of the set do not count", x.sides(8, 9), 3);
        Due.is("two inside never", x.sides(3, 3), NONE);
        Due.is("none inside never", x.sides(15, 0), NONE);
        Due.is("a bit too many", x.sides(16, 0), UNKNOWN);
        Due.is("a bit too many inside", x.sides(0, 16), UNKNOWN);
        Due.is("a negative set", x.sides(-1, 0), UNKNOWN);
        Due.is("a negative inside", x.sides(1, -1), UNKNOWN);
        Due.is("nothing changes", x.told(6), 1);
        KissGates two = Due.of(FOUR);
        Due.is("two pairs by two gates", two.sides(15, 5), 1);
        two.hour(3);
        Due.is("two pairs by one gate", two.sides(15, 5), 2);
        two.hour(2);
        Due.is("no gate", two.sides(15, 5), NONE);
        Due.is("no gate, as they are", two.sides(15, 10), 0);
        KissGates ahead = Due.of("g9;g9;p1 0;p0 0;p0 0;l0 1 1;l1 0 1;l1 2 1;l2 1 1;");
        Due.is("as all are ahead of the hour, none twice", ahead.sides(4, 4), 2);
    }

    private static void steady() {
        Due.is("steady", Due.of(FOUR).steady(), 1);
        KissGates more = Due.of("g9;g9;p1 0;p0 0;p1 0;p0 0;l0 1 9;l1 0 9;l0 3 1;l3 0 1;l2 1 1;l1 2 1;");
        Due.is("0 and 1 would rather", more.steady(), 0);
        more.hole(1);
        Due.is("0 and 1 are both inside then", more.steady(), 1);
        KissGates like = Due.of("g9;g9;p1 0;p0 0;p1 0;p0 0;l0 1 9;l1 0 1;l0 3 1;l3 0 1;l2 1 1;l1 2 1;");
        Due.is("1 likes both alike", like.steady(), 1);
        KissGates rusted = Due.of("g1;p1 0;p0 0;l0 1 1;l1 0 1;");
        Due.is("together", rusted.steady(), 1);
        rusted.hour(1);
        Due.is("with none: 0", rusted.steady(), 0);
    }

    private static void loves() {
        KissGates x = Due.of("p0 0;p0 0;p1 0;p1 0;l0 1 3;l1 0 2;l0 2 3;l2 0 9;l1 3 3;l3 1 3;l2 3 8;l3 2 4;");
        Due.is("how many", x.loves(-1), 1);
        Due.is("the first: 1 likes 3 more than 0, 3 likes 2 more than 1", x.loves(0), 2);
        Due.is("no second", x.loves(1), NONE);
        Due.is("loves(-2)", x.loves(-2), NONE);
        KissGates none = Due.of("p0 0;p0 0;p0 0;l0 1 0;l1 0 0;l1 2 1;");
        Due.is("0 is no love", none.loves(-1), 0);
        Due.is("none", none.loves(0), NONE);
        KissGates three = Due.of("p0 0;p0 0;p0 0;l0 1 1;l1 0 1;l0 2 1;l2 0 1;l1 2 1;l2 1 1;");
        Due.is("of like ones all", three.loves(-1), 3);
        Due.is("rising 0", three.loves(0), 1);
        Due.is("rising 1", three.loves(1), 2);
        Due.is("rising 2", three.loves(2), 12);
        Due.is("no fourth", three.loves(3), NONE);
        three.hole(0);
        Due.is("sides do not count", three.loves(-1), 3);
    }

    /** 0 with 1, then 1 with 2, as told in THE LOG; 0 outside, 1, 2 and 3 as they come. */
    private static KissGates chain(String colds) {
        KissGates x = Due.of("g9;p0 " + colds.charAt(0) + ";p1 " + colds.charAt(1) + ";p1 " + colds.charAt(2)
            + ";p0 0;l0 1 1;l1 0 1;l1 2 1;l2 1 1;");
        Due.meet(x, 0, 1);
        Due.meet(x, 1, 2);
        Due.is("two met", x.told(4), 2);
        return x;
    }

    private static void first() {
        Due.is("by 0 all three, by 1 too", chain("100").first(), 3);
        Due.is("by 2 only 1 and 2", chain("001").first(), 4);
        KissGates x = chain("001");
        x.well(2);
        Due.is("by none", x.first(), 0);
        Due.is("nobody has one", chain("000").first(), 0);
        Due.is("alone", Due.of("p0 0;p0 1;").first(), 2);
        Due.is("two alone", Due.of("p0 1;p0 1;").first(), 0);
    }

    private static void dies() {
        KissGates x = Due.of("g5;g3;g4;");
        Due.is("dies(0)", x.dies(0), 1);
        Due.is("dies(1)", x.dies(1), 3);
        x.hour(1);
        x.oil(1);
        Due.is("of like ones the least", x.dies(0), 1);
        x.hour(1);
        x.oil(1);
        Due.is("the third", x.dies(0), 2);
        Due.is("behind two", x.dies(1), 2);
        x.hour(2);
        Due.is("of 1 left and 1 left the least", x.dies(0), 0);
        Due.is("behind one", x.dies(1), 1);
        x.hour(9);
        Due.is("none", x.dies(0), NONE);
        Due.is("none: hours", x.dies(1), NONE);
        Due.is("dies(2)", x.dies(2), OUTSIDE);
        Due.is("dies(-1)", x.dies(-1), OUTSIDE);
    }

    private static void oilFor() {
        KissGates x = Due.of("g2;g5;");
        int[] due = {0, 0, 0, 1, 1, 2, 3, 4};
        for (int n = 0; n < due.length; n++) {
            Due.is("oilFor(" + n + ")", x.oilFor(n), due[n]);
        }
        Due.is("oilFor(200)", x.oilFor(200), 99 + 39);
        Due.is("oilFor(201)", x.oilFor(201), OUTSIDE);
        Due.is("oilFor(-1)", x.oilFor(-1), OUTSIDE);
        x.hour(2);
        Due.is("rusted, no hour", x.oilFor(0), 0);
        Due.is("rusted, one hour", x.oilFor(1), 1);
        Due.is("rusted, four hours", x.oilFor(4), 3);
        Due.is("nothing changes", x.told(9), 1);
        Due.is("each hour but the first", Due.of("g1;").oilFor(200), 199);
    }

    private static void evening() {
        KissGates x = Due.of(FOUR);
        Due.is("at none", x.evening(0), NOT);
        x.come(0, 0);
        Due.is("alone", x.evening(0), 10);
        x.come(1, 0);
        Due.is("with one", x.evening(0), 9);
        x.come(3, 0);
        Due.is("with two", x.evening(0), 8);
        x.come(2, 0);
        Due.is("with one of its side, too", x.evening(0), 8);
        x.come(3, 1);
        Due.is("one at another gate", x.evening(0), 9);
        Due.is("that one", x.evening(3), 10);
        Due.is("evening(4)", x.evening(4), UNKNOWN);
        Due.is("evening(-1)", x.evening(-1), UNKNOWN);
    }

    private static void dry() {
        KissGates x = new KissGates();
        Due.is("dry(0, 0)", x.dry(0, 0), 1000000000);
        Due.is("dry(60, 0)", x.dry(60, 0), 1000000000);
        Due.is("dry(1, 100)", x.dry(1, 100), 0);
        Due.is("dry(2, 30)", x.dry(2, 30), 490000000);
        long odds = 1000000000L;
        for (int i = 0; i < 60; i++) {
            odds = odds * 67 / 100;
        }
        Due.is("dry(60, 33), cut each day", x.dry(60, 33), odds);
        Due.is("dry(9, 67)", x.dry(9, 67), 46411);
        Due.is("dry(61, 0)", x.dry(61, 0), OUTSIDE);
        Due.is("dry(-1, 0)", x.dry(-1, 0), OUTSIDE);
        Due.is("dry(0, 101)", x.dry(0, 101), OUTSIDE);
        Due.is("dry(0, -1)", x.dry(0, -1), OUTSIDE);
    }

    private static void ill() {
        KissGates x = chain("000");
        Due.is("ill(4, true)", x.ill(4, true), UNKNOWN);
        Due.is("ill(-1, false)", x.ill(-1, false), UNKNOWN);
        for (int i = 1; i <= 6; i++) {
            Due.is("ill of " + i, x.ill(i % 4, i % 2 == 0), i);
        }
        Due.is("told(11)", x.told(11), 6);
        Due.is("a seventh", x.ill(0, true), FULL);
        Due.is("UNKNOWN ahead of FULL", x.ill(4, true), UNKNOWN);
    }

    private static void mayBe() {
        KissGates x = chain("000");
        Due.is("nothing known", x.mayBe(), 15);
        x.ill(2, true);
        Due.is("2 is ill", x.mayBe(), 7);
        x.ill(0, false);
        Due.is("0 is not", x.mayBe(), 4);
        x.ill(1, false);
        Due.is("1 is not: by none", x.mayBe(), 0);
        x.tear();
        x.ill(2, false);
        Due.is("2 is not", x.mayBe(), 8);
        x.ill(2, true);
        Due.is("2 is both", x.mayBe(), 0);
    }

    private static void ask() {
        KissGates x = chain("000");
        // by 0: 0 1 2, by 1: 0 1 2, by 2: 1 2, by 3: 3
        Due.is("0 parts two from two", x.ask(), 0);
        x.ill(3, false);
        Due.is("0 parts 0 and 1 from 2", x.ask(), 0);
        x.ill(0, true);
        Due.is("0 and 1 are alike", x.ask(), NONE);
        x.ill(0, false);
        Due.is("nobody left", x.ask(), NONE);
        KissGates y = Due.of("g9;p1 0;p0 0;p0 0;p1 0;l1 3 1;l3 1 1;");
        Due.is("all alike: the least", y.ask(), 0);
        Due.meet(y, 1, 3);
        Due.is("1 parts two from two", y.ask(), 1);
        Due.is("one person alone", Due.of("p0 0;").ask(), NONE);
    }

    private static void write() {
        KissGates x = Due.of("p0 0;p1 0;");
        Due.is("write(2, 0)", x.write(2, 0), UNKNOWN);
        Due.is("write(-1, 0)", x.write(-1, 0), UNKNOWN);
        Due.is("write(0, 2)", x.write(0, 2), OUTSIDE);
        Due.is("write(0, -1)", x.write(0, -1), OUTSIDE);
        Due.is("write(2, 2)", x.write(2, 2), UNKNOWN);
        for (int i = 1; i <= 15; i++) {
            Due.is("write of " + i, x.write(i % 2, i % 2), i);
        }
        Due.is("told(12)", x.told(12), 15);
        Due.is("a sixteenth", x.write(0, 0), FULL);
        Due.is("OUTSIDE ahead of FULL", x.write(0, 2), OUTSIDE);
    }

    private static void tear() {
        KissGates x = busy();
        Due.is("tear()", x.tear(), 3);
        Due.is("known", x.told(11), 0);
        Due.is("THE BOOK", x.told(12), 0);
        Due.is("mayBe()", x.mayBe(), 15);
        Due.is("tear() again", x.tear(), 0);
        Due.is("what can be undone stays", x.told(13), 5);
        Due.is("ill anew", x.ill(0, true), 1);
        Due.is("write anew", x.write(0, 0), 1);
    }

    private static void judge() {
        KissGates x = Due.of("p0 0;p1 0;p0 0;");
        Due.is("an empty book", x.judge(), NONE);
        x.write(1, 1);
        x.write(0, 0);
        Due.is("all so", x.judge(), NONE);
        x.write(2, 1);
        x.write(2, 0);
        x.write(0, 1);
        Due.is("the first that is otherwise", x.judge(), 2);
        x.hole(2);
        Due.is("otherwise then", x.judge(), 3);
        x.hole(1);
        Due.is("an earlier one", x.judge(), 0);
    }

    private static void seed() {
        KissGates x = new KissGates();
        Due.is("seed(7)", x.seed(7), 0);
        Due.is("seed(2147483647)", x.seed(2147483647), 7);
        Due.is("seed(-1)", x.seed(-1), OUTSIDE);
        Due.is("seed(-2147483648)", x.seed(-2147483648), OUTSIDE);
        Due.is("seed(0)", x.seed(0), 2147483647);
    }

    private static void keep() {
        KissGates x = Due.of(FOUR);
        x.hour(1);
        Due.is("keep(-1)", x.keep(-1), UNKNOWN);
        Due.is("keep(2)", x.keep(2), UNKNOWN);
        Due.is("refused: undo", x.told(13), 1);
        Due.is("keep(0)", x.keep(0), 1);
        Due.is("nothing can be undone", x.undo(), NOT);
        x.hour(1);
        Due.is("keep(1)", x.keep(1), 1);
        x.hour(1);
        x.goBack(0);
        Due.is("IMAGE 0", x.told(3), 1);
        x.goBack(1);
        Due.is("IMAGE 1", x.told(3), 2);
        x.hour(9);
        x.keep(1);
        x.hour(1);
        x.goBack(1);
        Due.is("IMAGE 1 kept anew", x.told(3), 11);
        x.goBack(1);
        Due.is("IMAGE 1 once more", x.told(3), 11);
    }

    private static void goBack() {
        KissGates x = busy();
        int[] was = new int[14];
        for (int what = 3; what <= 10; what++) {
            was[what] = x.told(what);
        }
        Due.is("goBack(2)", x.goBack(2), UNKNOWN);
        Due.is("goBack(-1)", x.goBack(-1), UNKNOWN);
        Due.is("goBack(1) was not kept", x.goBack(1), NOT);
        Due.is("refused: undo", x.told(13), 5);
        x.keep(1);
        x.seed(1);
        x.goOff(3);
        x.drift(60);
        x.hole(0);
        x.hole(1);
        x.well(1);
        x.write(0, 0);
        Due.is("goBack(1)", x.goBack(1), 1);
        for (int what = 3; what <= 10; what++) {
            Due.is("goBack(1): told(" + what + ")", x.told(what), was[what]);
        }
        Due.is("goBack(1): person(3, 1)", x.person(3, 1), 1);
        Due.is("goBack(1): gate(0, 1)", x.gate(0, 1), 0);
        Due.is("goBack(1): logged(0)", x.logged(0), 1);
        Due.is("nothing can be undone", x.undo(), NOT);
        Due.is("THE BOOK is not of section 2", x.told(12), 3);
        Due.is("THE SEED", x.seed(5), 77);
        Due.is("goBack(0)", x.goBack(0), 1);
        Due.is("goBack(0): hours", x.told(3), 0);
        Due.is("goBack(0): THE SEED", x.seed(5), 77);
    }
}
