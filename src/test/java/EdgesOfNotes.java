/** Promises 27 to 35: what is known, whom to ask, THE BOOK, THE SEED, IMAGES. */
final class EdgesOfNotes implements Answers {
    private EdgesOfNotes() {
    }

    static void all() {
        illOfPersonsThatThereAre();
        sixAreKnown();
        mayBeByNothingKnown();
        mayBeByWhoIsIllAndWhoIsNot();
        mayBeOldestMeetingFirst();
        askOfNoneAndOfOne();
        askTheGreatestPartIsLeast();
        askOfLikeOnesTheLeast();
        writeOfPersonsThatThereAre();
        writeInsideIs0Or1();
        fifteenAreWritten();
        tearNothingAndAll();
        judgeFromTheFirstToTheLast();
        seedFrom0ToTheMost();
        imagesAre0And1();
        goBackToWhatWasKept();
        imagesKeepAllOfSectionTwo();
        imagesStayAsTheyWereKept();
        imagesKeepTheLog();
        imagesAreGoneByACommon();
        imagesKeepTheSeed();
    }

    private static void illOfPersonsThatThereAre() {
        KissGates x = Due.of("p0 0;".repeat(7));
        for (int p : new int[] {LEAST, -2, -1, 7, 8, MOST}) {
            Due.promise(27, "ill(" + p + ", true)", x.ill(p, true), UNKNOWN);
            Due.promise(27, "ill(" + p + ", false)", x.ill(p, false), UNKNOWN);
        }
        Due.promise(5, "nothing is known", x.told(11), 0);
        Due.promise(27, "ill(0, false)", x.ill(0, false), 1);
        Due.promise(28, "not by 0", x.mayBe(), 126);
        Due.promise(27, "ill(6, true)", x.ill(6, true), 2);
        Due.promise(28, "by 6", x.mayBe(), 64);
        KissGates one = Due.of("p0 0;");
        Due.promise(27, "the only one", one.ill(0, true), 1);
        Due.promise(27, "one behind the only one", one.ill(1, true), UNKNOWN);
    }

    private static void sixAreKnown() {
        KissGates x = Due.of("p0 0;".repeat(7));
        for (int i = 1; i <= 6; i++) {
            Due.promise(27, "ill() of " + i, x.ill(i - 1, false), i);
            Due.promise(5, "what is known", x.told(11), i);
        }
        Due.promise(28, "six are not", x.mayBe(), 64);
        Due.promise(27, "a seventh", x.ill(6, false), FULL);
        Due.promise(27, "a seventh of one that is known", x.ill(0, false), FULL);
        Due.promise(27, "UNKNOWN ahead of FULL", x.ill(7, true), UNKNOWN);
        Due.promise(27, "UNKNOWN ahead of FULL", x.ill(-1, true), UNKNOWN);
        Due.promise(5, "what is known then", x.told(11), 6);
        Due.promise(28, "what was refused is not known", x.mayBe(), 64);
        x.tear();
        Due.promise(27, "behind tear()", x.ill(6, false), 1);
        KissGates same = Due.of("p0 0;p0 0;");
        for (int i = 1; i <= 6; i++) {
            Due.promise(27, "one that is known, " + i, same.ill(0, true), i);
        }
        Due.promise(27, "one that is known, a seventh", same.ill(0, true), FULL);
    }

    private static void mayBeByNothingKnown() {
        for (int persons = 0; persons <= 7; persons++) {
            KissGates x = Due.of("p0 0;".repeat(persons));
            Due.promise(28, "nothing known of " + persons, x.mayBe(), (1 << persons) - 1);
        }
    }

    /** 0 with 1, then 1 with 2; 3 met nobody. By 0: 0 1 2, by 1: 0 1 2, by 2: 1 2, by 3: 3. */
    private static KissGates chain() {
        KissGates x = Due.of("g9;p0 0;p1 0;p1 0;p0 0;l0 1 1;l1 0 1;l1 2 1;l2 1 1;");
        Due.meet(x, 0, 1);
        Due.meet(x, 1, 2);
        Due.is("both met", x.told(4), 2);
        return x;
    }

    private static void mayBeByWhoIsIllAndWhoIsNot() {
        KissGates x = chain();
        x.ill(1, true);
        Due.promise(28, "1 is ill", x.mayBe(), 7);
        x.ill(0, true);
        Due.promise(28, "0 is ill, too", x.mayBe(), 3);
        x.ill(3, false);
        Due.promise(28, "3 is not", x.mayBe(), 3);
        x.ill(3, true);
        Due.promise(28, "3 is and is not", x.mayBe(), 0);
        x.tear();
        x.ill(1, false);
        Due.promise(28, "1 is not", x.mayBe(), 8);
        x.ill(3, false);
        Due.promise(28, "nobody fits", x.mayBe(), 0);
        x.tear();
        Due.promise(28, "nothing known again", x.mayBe(), 15);
    }

    private static void mayBeOldestMeetingFirst() {
        KissGates x = chain();
        x.ill(0, true);
        Due.promise(28, "not by 2, who met 1 later", x.mayBe(), 3);
        x.tear();
        x.ill(2, true);
        Due.promise(28, "by 0, who met 1 ahead of that", x.mayBe(), 7);
    }

    private static void askOfNoneAndOfOne() {
        Due.promise(29, "nobody", Due.of("g9;").ask(), NONE);
        Due.promise(29, "one", Due.of("p0 0;").ask(), NONE);
        Due.promise(29, "two", Due.of("p0 0;p0 0;").ask(), 0);
        KissGates x = chain();
        x.ill(0, true);
        Due.promise(28, "0 and 1 are left", x.mayBe(), 3);
        Due.promise(29, "none parts them", x.ask(), NONE);
        x.ill(0, false);
        Due.promise(28, "nobody is left", x.mayBe(), 0);
        Due.promise(29, "none is left to part", x.ask(), NONE);
        x.tear();
        x.ill(3, true);
        Due.promise(29, "one is left", x.ask(), NONE);
    }

    private static void askTheGreatestPartIsLeast() {
        KissGates x = chain();
        Due.promise(29, "0: two and two; 1: three and one", x.ask(), 0);
        x.ill(3, false);
        Due.promise(29, "of 0, 1, 2 only 0 parts", x.ask(), 0);
        KissGates y = Due.of("g9;p0 0;p0 0;p1 0;p0 0;l1 2 1;l2 1 1;");
        Due.promise(29, "all part alike", y.ask(), 0);
        Due.meet(y, 1, 2);
        Due.promise(29, "0: one and three; 1: two and two", y.ask(), 1);
        KissGates three = Due.of("g9;p0 0;p0 0;p1 0;p0 0;p0 0;l3 2 1;l2 3 1;l4 3 1;l3 4 1;");
        Due.meet(three, 2, 3);
        Due.meet(three, 3, 4);
        // by 2: 2 3 4, by 3: 2 3 4, by 4: 3 4; 2 parts two from three, 3 and 4 three from two
        Due.promise(29, "two and three: the least", three.ask(), 2);
    }

    private static void askOfLikeOnesTheLeast() {
        KissGates x = Due.of("p0 0;".repeat(7));
        Due.promise(29, "of seven alike", x.ask(), 0);
        x.ill(0, false);
        Due.promise(29, "of six alike", x.ask(), 1);
        x.ill(1, false);
        x.ill(2, false);
        x.ill(3, false);
        x.ill(4, false);
        Due.promise(29, "of two alike", x.ask(), 5);
        x.ill(5, false);
        Due.promise(29, "of one", x.ask(), NONE);
    }

    private static void writeOfPersonsThatThereAre() {
        KissGates x = Due.of("p0 0;".repeat(7));
        for (int p : new int[] {LEAST, -2, -1, 7, 8, MOST}) {
            for (int inside : new int[] {-1, 0, 1, 2}) {
                Due.promise(30, "write(" + p + ", " + inside + ")", x.write(p, inside), UNKNOWN);
            }
        }
        Due.promise(5, "THE BOOK is empty", x.told(12), 0);
        Due.promise(30, "write(0, 0)", x.write(0, 0), 1);
        Due.promise(30, "write(6, 0)", x.write(6, 0), 2);
    }

    private static void writeInsideIs0Or1() {
        KissGates x = Due.of("p0 0;");
        for (int inside : new int[] {LEAST, -2, -1, 2, 3, MOST}) {
            Due.promise(30, "write(0, " + inside + ")", x.write(0, inside), OUTSIDE);
        }
        Due.promise(30, "write(0, 0)", x.write(0, 0), 1);
        Due.promise(30, "write(0, 1)", x.write(0, 1), 2);
        Due.promise(32, "0 is so, 1 is not", x.judge(), 1);
    }

    private static void fifteenAreWritten() {
        KissGates x = Due.of("p0 0;");
        for (int i = 1; i <= 15; i++) {
            Due.promise(30, "write() of " + i, x.write(0, 0), i);
            Due.promise(5, "entries of THE BOOK", x.told(12), i);
        }
        Due.promise(30, "a sixteenth", x.write(0, 0), FULL);
        Due.promise(30, "a sixteenth that is wrong", x.write(0, 1), FULL);
        Due.promise(30, "OUTSIDE ahead of FULL", x.write(0, 2), OUTSIDE);
        Due.promise(30, "OUTSIDE ahead of FULL", x.write(0, -1), OUTSIDE);
        Due.promise(30, "UNKNOWN ahead of FULL", x.write(1, 0), UNKNOWN);
        Due.promise(30, "UNKNOWN ahead of all", x.write(1, 2), UNKNOWN);
        Due.promise(5, "entries then", x.told(12), 15);
        Due.promise(32, "what was refused is not written", x.judge(), NONE);
        x.tear();
        Due.promise(30, "behind tear()", x.write(0, 1), 1);
    }

    private static void tearNothingAndAll() {
        KissGates x = Due.of("p0 0;p0 0;");
        Due.promise(31, "nothing", x.tear(), 0);
        x.ill(0, true);
        Due.promise(31, "one known", x.tear(), 1);
        Due.promise(31, "nothing again", x.tear(), 0);
        x.write(0, 1);
        Due.promise(31, "one written", x.tear(), 1);
        Due.promise(32, "THE BOOK is empty", x.judge(), NONE);
        for (int i = 0; i < 6; i++) {
            x.ill(0, false);
        }
        for (int i = 0; i < 15; i++) {
            x.write(0, 1);
        }
        Due.promise(31, "all that can be", x.tear(), 21);
        Due.promise(5, "nothing known", x.told(11), 0);
        Due.promise(5, "THE BOOK is empty", x.told(12), 0);
        Due.promise(28, "nothing known: mayBe()", x.mayBe(), 3);
        Due.promise(32, "THE BOOK is empty: judge()", x.judge(), NONE);
        Due.promise(27, "ill() anew", x.ill(1, true), 1);
        Due.promise(30, "write() anew", x.write(1, 1), 1);
        Due.promise(28, "what was torn is not known", x.mayBe(), 2);
    }

    private static void judgeFromTheFirstToTheLast() {
        for (int wrong = 0; wrong < 15; wrong++) {
            KissGates x = Due.of("g9;p0 0;p1 0;");
            Due.promise(32, "THE BOOK is empty", x.judge(), NONE);
            for (int i = 0; i < 15; i++) {
                x.write(i % 2, i == wrong ? 1 - i % 2 : i % 2);
                Due.promise(32, "entry " + wrong + " is wrong of " + (i + 1), x.judge(), i < wrong ? NONE : wrong);
            }
        }
        KissGates x = Due.of("p0 0;p1 0;");
        x.write(0, 0);
        x.write(1, 0);
        x.write(0, 1);
        Due.promise(32, "the first of two that are wrong", x.judge(), 1);
        x.hole(1);
        Due.promise(32, "the second of them then", x.judge(), 2);
        x.hole(0);
        Due.promise(32, "the first entry then", x.judge(), 0);
        x.undo();
        Due.promise(32, "as it is now", x.judge(), 2);
    }

    private static void seedFrom0ToTheMost() {
        KissGates x = new KissGates();
        for (int v : new int[] {LEAST, LEAST + 1, -2, -1}) {
            Due.promise(33, "seed(" + v + ")", x.seed(v), OUTSIDE);
        }
        int was = 0;
        for (int v : new int[] {0, 1, 2147483646, 2147483647, 0}) {
            Due.promise(33, "seed(" + v + ")", x.seed(v), was);
            was = v;
        }
        x.seed(8);
        x.seed(-1);
        Due.promise(33, "what is refused changes nothing", x.seed(0), 8);
    }

    private static void imagesAre0And1() {
        KissGates x = Due.of("g9;");
        x.hour(1);
        for (int i : new int[] {LEAST, -2, -1, 2, 3, MOST}) {
            Due.promise(34, "keep(" + i + ")", x.keep(i), UNKNOWN);
            Due.promise(35, "goBack(" + i + ")", x.goBack(i), UNKNOWN);
        }
        Due.promise(5, "what can be undone stays", x.told(13), 1);
        Due.promise(34, "keep(0)", x.keep(0), 1);
        Due.promise(34, "keep(1)", x.keep(1), 1);
        Due.promise(35, "goBack(0)", x.goBack(0), 1);
        Due.promise(35, "goBack(1)", x.goBack(1), 1);
        for (int i : new int[] {-1, 2}) {
            Due.promise(34, "keep(" + i + ") beside two IMAGES", x.keep(i), UNKNOWN);
            Due.promise(35, "goBack(" + i + ") beside two IMAGES", x.goBack(i), UNKNOWN);
        }
    }

    private static void goBackToWhatWasKept() {
        for (int i = 0; i <= 1; i++) {
            KissGates x = Due.of("g9;");
            x.hour(2);
            Due.promise(35, "none was kept: " + i, x.goBack(i), NOT);
            Due.promise(5, "what can be undone stays", x.told(13), 1);
            x.keep(1 - i);
            x.hour(1);
            Due.promise(35, "the other was kept: " + i, x.goBack(i), NOT);
            Due.promise(5, "HOURS behind NOT", x.told(3), 3);
            Due.promise(5, "what can be undone stays", x.told(13), 1);
            Due.promise(35, "the other", x.goBack(1 - i), 1);
            Due.promise(5, "HOURS of the other", x.told(3), 2);
            Due.promise(5, "nothing can be undone", x.told(13), 0);
            Due.promise(35, "once more", x.goBack(1 - i), 1);
        }
    }

    private static void imagesKeepAllOfSectionTwo() {
        KissGates x = Due.of("g3;g9;p1 1;p0 0;p0 0;l0 1 1;l1 0 1;l0 2 1;l2 0 1;");
        Due.meet(x, 0, 1);
        x.hole(2);
        x.come(2, 1);
        x.hour(2);
        var was = Whole.ofSectionTwo(x);
        x.keep(0);
        x.ill(0, true);
        x.write(0, 1);
        Due.promise(34, "keep() changes nothing of section 2", Whole.ofSectionTwo(x).equals(was) ? 1 : 0, 1);
        x.oil(0);
        x.come(0, 1);
        x.hour(60);
        x.hole(1);
        x.well(0);
        x.feed('g');
        x.goBack(0);
        Due.promise(35, "all of section 2 is as it was kept", Whole.ofSectionTwo(x).equals(was) ? 1 : 0, 1);
        Due.promise(35, "what is known is not of it", x.told(11), 1);
        Due.promise(35, "THE BOOK is not of it", x.told(12), 1);
        Due.promise(35, "THE TEXT is not of it", x.told(2), 1);
        x.tear();
        x.goBack(0);
        Due.promise(35, "nothing known comes back", x.told(11), 0);
        Due.promise(35, "no BOOK comes back", x.told(12), 0);
        KissGates none = new KissGates();
        Due.promise(34, "no COMMON is kept", none.keep(0), 1);
        Due.promise(35, "no COMMON comes back", none.goBack(0), 1);
        Due.promise(5, "no COMMON still", none.told(1), 0);
    }

    private static void imagesStayAsTheyWereKept() {
        KissGates x = Due.of("g99;");
        x.keep(0);
        x.hour(1);
        x.keep(1);
        x.hour(1);
        x.goBack(0);
        Due.promise(35, "IMAGE 0", x.told(3), 0);
        x.hour(5);
        x.goBack(1);
        Due.promise(35, "IMAGE 1", x.told(3), 1);
        x.hour(5);
        x.goBack(0);
        Due.promise(35, "IMAGE 0 is as it was kept", x.told(3), 0);
        x.hour(7);
        x.keep(1);
        x.goBack(0);
        Due.promise(35, "IMAGE 0 beside another IMAGE 1", x.told(3), 0);
        x.goBack(1);
        Due.promise(34, "IMAGE 1 kept anew", x.told(3), 7);
        x.keep(0);
        x.hour(1);
        x.goBack(0);
        Due.promise(34, "IMAGE 0 kept anew", x.told(3), 7);
        x.hour(1);
        x.undo();
        x.hour(3);
        Due.promise(17, "undo() behind goBack()", x.undo(), 0);
        x.goBack(0);
        Due.promise(35, "undo() does not touch an IMAGE", x.told(3), 7);
    }

    private static void imagesKeepTheLog() {
        KissGates x = Due.of("g99;p1 0;p0 0;p0 0;l0 1 1;l1 0 1;l0 2 1;l2 0 1;");
        x.keep(1);
        Due.meet(x, 0, 1);
        x.keep(0);
        x.goBack(1);
        Due.promise(35, "an empty LOG", x.logged(0), NONE);
        Due.meet(x, 0, 2);
        Due.promise(35, "another LOG", x.logged(0), 2);
        x.goBack(0);
        Due.promise(35, "THE LOG that was kept", x.logged(0), 1);
        Due.promise(35, "how many it has", x.told(10), 1);
    }

    private static void imagesAreGoneByACommon() {
        KissGates x = Due.of("g9;p0 0;");
        x.keep(0);
        x.keep(1);
        Due.feed(x, "g0;");
        x.common();
        Due.promise(35, "a FAULT leaves IMAGE 0", x.goBack(0), 1);
        Due.promise(35, "a FAULT leaves IMAGE 1", x.goBack(1), 1);
        Due.feed(x, "g9;p0 0;");
        x.common();
        Due.promise(35, "IMAGE 0 is gone", x.goBack(0), NOT);
        Due.promise(35, "IMAGE 1 is gone", x.goBack(1), NOT);
        x.keep(0);
        x.common();
        Due.promise(35, "gone by an empty text", x.goBack(0), NOT);
    }

    private static void imagesKeepTheSeed() {
        KissGates x = Due.of("g9;p0 0;");
        x.seed(2147483647);
        x.keep(0);
        x.seed(1);
        x.keep(1);
        x.seed(0);
        x.goBack(0);
        Due.promise(35, "THE SEED of IMAGE 0", x.seed(5), 2147483647);
        x.goBack(1);
        Due.promise(35, "THE SEED of IMAGE 1", x.seed(5), 1);
        x.goBack(0);
        x.drift(3);
        int drawn = x.seed(0);
        x.goBack(0);
        x.drift(3);
        Due.promise(35, "the same draws go on from an IMAGE", x.seed(0), drawn);
        Due.promise(35, "what is refused leaves THE SEED", x.goBack(2), UNKNOWN);
        Due.promise(33, "THE SEED then", x.seed(0), 0);
    }
}
