/** Promises 2 to 4 with section 1 of the terms: the letters, the clauses, their bounds, the first fault. */
final class EdgesOfText implements Answers {
    private EdgesOfText() {
    }

    static void all() {
        feedTakesLettersFrom0To255();
        feedTakes240Letters();
        aTextOf240LettersIsReadToItsEnd();
        fiveGatesAtMost();
        sevenPersonsAtMost();
        rustsFrom1To99();
        sidesAndColdsAre0Or1();
        likingFrom0To9();
        untoldLikingIs0();
        personsAreToldAhead();
        eachPairIsToldOnce();
        numbersHaveOneToThreeFigures();
        blanksStandAnywhereButWithinNumbers();
        twoNumbersNeedABlank();
        theEndIsAtTheLength();
        lettersThatAreNoWord();
        atOneLetterTheLeastFault();
        theFirstLetterAheadOfALesserFault();
        anEmptyTextIsNoCommon();
        theTextIsEmptyThen();
        faultIsOfTheLatestCommon();
    }

    private static KissGates tells(int persons, String text) {
        KissGates x = new KissGates();
        Due.feed(x, text);
        Due.promise(3, "common() of '" + text + "'", x.common(), persons);
        Due.promise(4, "fault() of '" + text + "'", x.fault(), NONE);
        return x;
    }

    private static void fails(int number, int at, String text) {
        KissGates x = new KissGates();
        Due.feed(x, text);
        Due.promise(3, "common() of '" + text + "'", x.common(), -10 - number);
        Due.promise(4, "fault() of '" + text + "'", x.fault(), at);
        Due.promise(5, "told(0) behind '" + text + "'", x.told(0), 0);
        Due.promise(5, "told(1) behind '" + text + "'", x.told(1), 0);
    }

    private static void feedTakesLettersFrom0To255() {
        KissGates x = new KissGates();
        for (int letter : new int[] {LEAST, -256, -2, -1, 256, 257, 359, MOST}) {
            Due.promise(2, "feed(" + letter + ")", x.feed(letter), OUTSIDE);
        }
        Due.promise(5, "told(2) behind refused letters", x.told(2), 0);
        int count = 0;
        for (int letter : new int[] {0, 1, 31, 32, 127, 128, 254, 255}) {
            count++;
            Due.promise(2, "feed(" + letter + ")", x.feed(letter), count);
        }
        Due.promise(5, "told(2)", x.told(2), count);
    }

    private static void feedTakes240Letters() {
        KissGates x = new KissGates();
        Due.promise(5, "told(2) of no letter", x.told(2), 0);
        for (int i = 1; i <= 240; i++) {
            Due.promise(2, "feed of letter " + i, x.feed(' '), i);
        }
        Due.promise(5, "told(2) of 240", x.told(2), 240);
        Due.promise(2, "feed of letter 241", x.feed(' '), FULL);
        Due.promise(2, "feed of letter 241 again", x.feed('x'), FULL);
        Due.promise(2, "OUTSIDE ahead of FULL: -1", x.feed(-1), OUTSIDE);
        Due.promise(2, "OUTSIDE ahead of FULL: 256", x.feed(256), OUTSIDE);
        Due.promise(5, "told(2) behind FULL", x.told(2), 240);
        Due.promise(3, "what was refused is not of the text", x.common(), 0);
        Due.promise(2, "feed behind common()", x.feed(' '), 1);
    }

    private static void aTextOf240LettersIsReadToItsEnd() {
        for (int length = 238; length <= 240; length++) {
            KissGates x = tells(0, " ".repeat(length - 3) + "g1;");
            Due.promise(5, "the gate at the end of " + length, x.told(0), 1);
        }
        fails(1, 240, " ".repeat(238) + "g1;");
        fails(1, 239, " ".repeat(239) + "x");
        fails(1, 238, " ".repeat(238) + "x");
        tells(0, " ".repeat(240) + "x");
    }

    private static void fiveGatesAtMost() {
        for (int gates = 0; gates <= 5; gates++) {
            Due.promise(5, "told(0)", tells(0, "g1;".repeat(gates)).told(0), gates);
        }
        fails(3, 15, "g1;g1;g1;g1;g1;g1;");
        fails(3, 15, "g1;g1;g1;g1;g1;g");
        fails(3, 15, "g1;g1;g1;g1;g1;g0;");
        fails(3, 20, "g1;g1;g1;g1;g1;p0 0;g1;");
        tells(1, "g1;g1;g1;g1;p0 0;g1;");
    }

    private static void sevenPersonsAtMost() {
        for (int persons = 0; persons <= 7; persons++) {
            Due.promise(5, "told(1)", tells(persons, "p0 0;".repeat(persons)).told(1), persons);
        }
        fails(3, 35, "p0 0;".repeat(8));
        fails(3, 35, "p0 0;".repeat(7) + "p");
        fails(3, 35, "p0 0;".repeat(7) + "p2 0;");
        fails(3, 38, "p0 0;".repeat(7) + "g1;p0 0;");
        KissGates x = tells(7, "p0 0;".repeat(6) + "g1;g1;g1;g1;g1;p0 0;l6 5 1;");
        Due.promise(5, "five gates beside seven persons", x.told(0), 5);
    }

    private static void rusts(String figures, int hours) {
        Due.promise(6, "R of g" + figures, tells(0, "g" + figures + ";").gate(0, 0), hours);
    }

    private static void rustsFrom1To99() {
        fails(2, 1, "g0;");
        fails(2, 1, "g00;");
        fails(2, 1, "g000;");
        rusts("1", 1);
        rusts("2", 2);
        rusts("98", 98);
        rusts("99", 99);
        fails(2, 1, "g100;");
        fails(2, 1, "g101;");
        fails(2, 1, "g999;");
    }

    private static void sidesAndColdsAre0Or1() {
        for (int side = 0; side <= 1; side++) {
            for (int cold = 0; cold <= 1; cold++) {
                KissGates x = tells(1, "p" + side + " " + cold + ";");
                Due.promise(7, "S " + side, x.person(0, 0), side);
                Due.promise(7, "C " + cold, x.person(0, 2), cold);
                Due.promise(5, "told(6) of S " + side, x.told(6), side);
                Due.promise(5, "told(7) of C " + cold, x.told(7), cold);
            }
        }
        fails(2, 1, "p2 0;");
        fails(2, 3, "p0 2;");
        fails(2, 3, "p1 2;");
        fails(2, 1, "p10 0;");
        fails(2, 3, "p0 10;");
        fails(2, 1, "p999 0;");
        fails(2, 1, "p2 2;");
    }

    private static void liked(String figures, int much) {
        KissGates x = tells(2, "p0 0;p0 0;l0 1 " + figures + ";");
        Due.promise(8, "likes(0, 1) by " + figures, x.likes(0, 1), much);
    }

    private static void likingFrom0To9() {
        liked("0", 0);
        liked("1", 1);
        liked("8", 8);
        liked("9", 9);
        fails(2, 15, "p0 0;p0 0;l0 1 10;");
        fails(2, 15, "p0 0;p0 0;l0 1 11;");
        fails(2, 15, "p0 0;p0 0;l0 1 999;");
    }

    private static void untoldLikingIs0() {
        KissGates x = tells(3, "p0 0;p1 0;p1 0;l0 1 9;");
        Due.promise(8, "told", x.likes(0, 1), 9);
        Due.promise(8, "told of the other alone", x.likes(1, 0), 0);
        Due.promise(8, "untold", x.likes(2, 1), 0);
        Due.promise(7, "untold: not WOULD", x.person(0, 3), 0);
    }

    private static void personsAreToldAhead() {
        fails(2, 1, "l0 0 1;");
        fails(2, 1, "l0 1 1;p0 0;p0 0;");
        for (int told = 2; told <= 7; told++) {
            String persons = "p0 0;".repeat(told);
            int at = 5 * told + 1;
            Due.promise(8, "P the last of " + told, tells(told, persons + "l" + (told - 1) + " 0 1;").likes(told - 1, 0), 1);
            Due.promise(8, "Q the last of " + told, tells(told, persons + "l0 " + (told - 1) + " 1;").likes(0, told - 1), 1);
            fails(2, at, persons + "l" + told + " 0 1;");
            fails(2, at + 2, persons + "l0 " + told + " 1;");
            fails(2, at, persons + "l" + told + " " + told + " 1;");
        }
        fails(2, 6, "p0 0;l1 0 1;p0 0;");
        fails(2, 8, "p0 0;l0 1 1;p0 0;");
        tells(2, "p0 0;p0 0;l0 1 1;");
        fails(2, 16, "p0 0;p0 0;  l   2 0 1;");
    }

    private static void eachPairIsToldOnce() {
        KissGates x = tells(3, "p0 0;p0 0;p0 0;l0 1 1;l1 0 2;l0 2 3;l2 1 4;");
        Due.promise(8, "the other way round is another pair", x.likes(1, 0), 2);
        Due.promise(8, "another Q", x.likes(0, 2), 3);
        Due.promise(8, "another P", x.likes(2, 1), 4);
        fails(4, 20, "p0 0;p0 0;l0 1 1;l0 1 1;");
        fails(4, 20, "p0 0;p0 0;l0 1 0;l0 1 5;");
        fails(4, 27, "p0 0;p0 0;l0 1 1;l1 0 1;l0 1 1;");
        fails(4, 21, "p0 0;p0 0;l0 1 1;l0  1 1;");
        fails(4, 20, "p0 0;p0 0;l0 1 1;l0 001 1;");
        fails(4, 8, "p0 0;l0 0 1;");
        fails(4, 13, "p0 0;p0 0;l1 1 1;");
        fails(4, 13, "p0 0;p0 0;l1 01 1;");
        fails(4, 14, "p0 0;p0 0;l01 1 1;");
        KissGates again = new KissGates();
        Due.feed(again, "p0 0;p0 0;l0 1 1;x");
        Due.promise(3, "a fault behind a pair", again.common(), -11);
        Due.feed(again, "p0 0;p0 0;l0 1 7;");
        Due.promise(3, "the pair was told in another text", again.common(), 2);
        Due.promise(8, "by how much then", again.likes(0, 1), 7);
    }

    private static void numbersHaveOneToThreeFigures() {
        rusts("7", 7);
        rusts("07", 7);
        rusts("007", 7);
        rusts("099", 99);
        fails(2, 1, "g0007;");
        fails(2, 1, "g0099;");
        fails(2, 1, "g00001;");
        fails(2, 1, "g1000;");
        fails(2, 1, "g" + "1".repeat(200) + ";");
        fails(2, 1, "g4294967297;");
        fails(2, 2, "g 0007");
        Due.promise(7, "S 001", tells(1, "p001 000;").person(0, 0), 1);
        Due.promise(7, "C 001", tells(1, "p000 001;").person(0, 2), 1);
        fails(2, 1, "p0001 0;");
        fails(2, 3, "p1 0000;");
        Due.promise(8, "l000 001 009", tells(2, "p0 0;p0 0;l000 001 009;").likes(0, 1), 9);
        fails(2, 11, "p0 0;p0 0;l0000 1 9;");
        fails(2, 13, "p0 0;p0 0;l0 0001 9;");
        fails(2, 15, "p0 0;p0 0;l0 1 0009;");
    }

    private static void blanksStandAnywhereButWithinNumbers() {
        KissGates x = tells(2, "   g  12   ;  p  0   1  ;  p 1 0 ; l   0   1   5 ;l 1  0 9   ;   ");
        Due.promise(6, "R between blanks", x.gate(0, 0), 12);
        Due.promise(7, "S between blanks", x.person(1, 0), 1);
        Due.promise(7, "C between blanks", x.person(0, 2), 1);
        Due.promise(8, "N between blanks", x.likes(1, 0), 9);
        fails(1, 3, "g1 2;");
        fails(1, 4, "g 1 2;");
        fails(1, 3, "g9 ,");
        fails(1, 5, "p0 0 0;");
        fails(1, 17, "p0 0;p0 0;l0 1 1 0;");
        for (int letter : new int[] {0, 9, 10, 13, 31, 33, 160, 255}) {
            char other = (char) letter;
            fails(1, 0, other + "g1;");
            fails(1, 1, "g" + other + "1;");
            fails(1, 2, "g1" + other + ";");
            fails(1, 3, "g1;" + other);
            fails(1, 2, "p0" + other + "0;");
        }
    }

    private static void twoNumbersNeedABlank() {
        tells(1, "p0 0;");
        fails(1, 3, "p00;");
        fails(2, 1, "p10;");
        fails(1, 4, "p000;");
        fails(2, 13, "p0 0;p0 0;l0 15;");
        fails(2, 14, "p0 0;p0 0;l01 5;");
        fails(1, 14, "p0 0;p0 0;l0 1;");
        fails(1, 15, "p0 0;p0 0;l0 01;");
        tells(2, "p0 0;p0 0;l0 1 5;");
    }

    private static void theEndIsAtTheLength() {
        String whole = "g9;g12 ;p0 1; p1 0;l0 1 5; l1 0 9 ; ";
        for (int length = 0; length <= whole.length(); length++) {
            String text = whole.substring(0, length);
            boolean closed = text.isBlank() || text.stripTrailing().endsWith(";");
            if (closed) {
                tells(text.split("p[^;]*;", -1).length - 1, text);
            } else {
                fails(1, length, text);
            }
        }
        fails(1, 1, "g");
        fails(1, 1, "p");
        fails(1, 1, "l");
        fails(1, 4, "g   ");
    }

    private static boolean isFigure(int letter) {
        return letter >= '0' && letter <= '9';
    }

    private static void lettersThatAreNoWord() {
        for (int letter = 0; letter <= 255; letter++) {
            boolean opens = letter == 'g' || letter == 'p' || letter == 'l';
            for (String ahead : new String[] {"", "g1;"}) {
                String text = ahead + (char) letter;
                if (letter == ' ') {
                    tells(0, text);
                } else {
                    fails(1, opens ? text.length() : ahead.length(), text);
                }
            }
            String number = "g" + (char) letter;
            fails(letter == '0' ? 2 : 1, letter != '0' && (isFigure(letter) || letter == ' ') ? 2 : 1, number);
            String end = "g1" + (char) letter;
            if (letter == ';') {
                tells(0, end);
            } else {
                fails(1, isFigure(letter) || letter == ' ' ? 3 : 2, end);
            }
        }
    }

    private static void atOneLetterTheLeastFault() {
        fails(1, 0, "1234");
        fails(1, 3, "g1 1234;");
        fails(1, 5, "p0 0 9;");
        fails(1, 17, "p0 0;p0 0;l0 1 1 0000;");
        fails(1, 15, "g1;g1;g1;g1;g1 g1;");
        fails(1, 16, "g1;g1;g1;g1;g1;pg");
        fails(1, 35, "p0 0;".repeat(6) + "p0 0 p0 0;");
        fails(1, 36, "p0 0;".repeat(7) + "gp");
        fails(2, 8, "p0 0;l0 0000 1;");
        fails(2, 20, "p0 0;p0 0;l0 1 1;l0 0001 1;");
    }

    private static void theFirstLetterAheadOfALesserFault() {
        fails(2, 1, "g0x");
        fails(2, 1, "g0");
        fails(2, 1, "g100 ");
        fails(3, 15, "g1;g1;g1;g1;g1;gx");
        fails(3, 35, "p0 0;".repeat(7) + "p;");
        fails(4, 8, "p0 0;l0 0x");
        fails(4, 8, "p0 0;l0 0 10;");
        fails(4, 20, "p0 0;p0 0;l0 1 1;l0 1");
        fails(2, 6, "p0 0;l1 1 10;");
        fails(1, 2, "g1xg0;");
    }

    private static void anEmptyTextIsNoCommon() {
        KissGates x = tells(0, "");
        Due.promise(5, "told(0) of an empty text", x.told(0), 0);
        Due.promise(10, "hour(1) of an empty text", x.hour(1), NOT);
        Due.feed(x, "g1;p0 0;");
        Due.promise(3, "common() behind it", x.common(), 1);
        Due.promise(3, "an empty text again", x.common(), 0);
        Due.promise(5, "told(0) then", x.told(0), 0);
        Due.promise(5, "told(1) then", x.told(1), 0);
        Due.promise(7, "person(0, 0) then", x.person(0, 0), UNKNOWN);
    }

    private static void theTextIsEmptyThen() {
        for (String text : new String[] {"g1;", "x", "g0;", "g1;g1;g1;g1;g1;g1;", "p0 0;l0 0 1;", "   "}) {
            KissGates x = new KissGates();
            Due.feed(x, text);
            Due.promise(5, "told(2) ahead of common()", x.told(2), text.length());
            x.common();
            Due.promise(5, "told(2) behind common() of '" + text + "'", x.told(2), 0);
            Due.promise(2, "feed behind common() of '" + text + "'", x.feed('p'), 1);
            Due.feed(x, "0 0;");
            Due.promise(3, "a text of its own behind '" + text + "'", x.common(), 1);
        }
    }

    private static void faultIsOfTheLatestCommon() {
        KissGates x = new KissGates();
        Due.promise(4, "fault() ahead of common()", x.fault(), NONE);
        x.feed('x');
        Due.promise(4, "fault() while the text is fed", x.fault(), NONE);
        x.common();
        Due.promise(4, "fault() at the first letter", x.fault(), 0);
        Due.feed(x, "g1;");
        Due.promise(4, "fault() ahead of the next common()", x.fault(), 0);
        x.common();
        Due.promise(4, "fault() of a good text", x.fault(), NONE);
        Due.feed(x, "g1;g");
        x.common();
        Due.promise(4, "fault() at the end", x.fault(), 4);
        Due.feed(x, "g0;");
        x.common();
        Due.promise(4, "fault() of the next fault", x.fault(), 1);
        x.common();
        Due.promise(4, "fault() of an empty text", x.fault(), NONE);
    }
}
