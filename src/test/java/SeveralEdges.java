/** Boundary cases of promises 27 to 33: several at once, passing on. */
final class SeveralEdges {
    private SeveralEdges() {
    }

    // ---- promise 27

    @Says(promise = 27, words = "How many PARTS a HEARER has UNDERSTOOD of BEST of a TALE",
        terms = "HEARD at once: a SAYING of n words is said; a HEARER hears its first AGE words, "
            + "and has UNDERSTOOD a PART, if all words of it and of those ahead of it are among these")
    static void aPartIsUnderstoodIfAgeReachesItsEnd() {
        YearWords x = Edge.rich();
        // BEST in 9 words: 5 and 4.
        int[] ages = {0, 4, 5, 8, 9, 10, 99};
        int[] want = {0, 0, 1, 1, 2, 2, 2};
        for (int i = 0; i < ages.length; i++) {
            x.age(0, ages[i]);
            Edge.due(x.heard(0, 9, 0), want[i]);
        }
    }

    @Says(promise = 27, words = "UNDERSTOOD", terms = "(a PART of 0 words, too).")
    static void aPartOf0WordsIsUnderstoodToo() {
        YearWords x = Edge.withParts();
        Edge.tell(x, 2, 2);
        Edge.tell(x, 0, 2);
        Edge.hear(x, 0, 2, 3);
        Edge.due(x.heard(0, 0, 0), 2);
        // 0 and 4 words: the first is understood by one of 0.
        Edge.due(x.heard(0, 4, 0), 1);
        // 3 and 0 words: whoever has not understood the first doesn't understand the second.
        Edge.due(x.heard(1, 3, 1), 0);
        Edge.due(x.heard(1, 3, 2), 2);
    }

    @Says(promise = 27, words = "of BEST of a TALE")
    static void ofSeveralBestTheFirstIsHeard() {
        YearWords x = new YearWords();
        x.part(1, 1, 4, 3);
        Edge.tell(x, 0, 0, 0);
        Edge.hear(x, 1, 3, 4);
        // 1, 3 and 4 words.
        Edge.due(x.heard(0, 8, 0), 1);
        Edge.due(x.heard(0, 8, 1), 1);
        Edge.due(x.heard(0, 8, 2), 2);
    }

    @Says(promise = 27, words = "in n words (0 to 120)")
    static void heardIn0AndIn120Words() {
        YearWords x = new YearWords();
        x.part(0, 12, 12, 0);
        Edge.tellTimes(x, 0, 10);
        x.tale();
        Edge.hear(x, 99, 0);
        Edge.due(x.heard(0, 120, 0), 8);
        Edge.due(x.heard(0, 120, 1), 0);
        Edge.due(x.heard(1, 0, 1), 0);
    }

    @Says(promise = 27, words = "BEYOND.")
    static void heardOutOfBoundsIsBeyond() {
        Edge.refused(Edge.BEYOND, x -> x.heard(-1, 9, 0), x -> x.heard(3, 9, 0), x -> x.heard(Edge.LOW, 9, 0),
            x -> x.heard(Edge.HIGH, 9, 0), x -> x.heard(0, -1, 0), x -> x.heard(0, 121, 0), x -> x.heard(0, Edge.LOW, 0),
            x -> x.heard(0, Edge.HIGH, 0), x -> x.heard(0, 9, -1), x -> x.heard(0, 9, 4), x -> x.heard(0, 9, Edge.LOW),
            x -> x.heard(0, 9, Edge.HIGH));
    }

    @Says(promise = 27, words = "NONE: it can't be said so.")
    static void heardOfWhatCantBeSaidIsNone() {
        Edge.refused(Edge.NONE, x -> x.heard(0, 3, 0), x -> x.heard(0, 14, 0), x -> x.heard(0, 0, 2),
            x -> x.heard(0, 120, 3), x -> x.heard(1, 1, 0));
    }

    @Says(promise = 27, words = "BEYOND. NONE")
    static void aWrongHeardIsBeyondAheadOfNone() {
        Edge.refused(Edge.BEYOND, x -> x.heard(0, 3, 4), x -> x.heard(0, 3, -1), x -> x.heard(1, 121, 0));
    }

    // ---- promise 28

    @Says(promise = 28, words = "The most PARTS that a set of HEARERS can have UNDERSTOOD, all together")
    static void theSetsPartsAreCountedForEachHearer() {
        YearWords x = Edge.rich();
        // In 9 words, as 3 and 6 or 5 and 4: of 9, 4, 0 and 99 two understand all, and one the first part of three words.
        Edge.due(x.together(0, 9, 15), 5);
        Edge.due(x.together(0, 9, 1), 2);
        Edge.due(x.together(0, 9, 2), 1);
        Edge.due(x.together(0, 9, 4), 0);
        Edge.due(x.together(0, 9, 8), 2);
    }

    @Says(promise = 28, words = "of one SAYING of n words")
    static void oneSayingIsForAllOfThem() {
        YearWords x = new YearWords();
        x.part(2, 2, 2, 0);
        x.part(2, 3, 3, 0);
        x.part(2, 3, 3, 0);
        x.part(2, 2, 2, 0);
        Edge.tell(x, 0, 1, 2, 3);
        Edge.hear(x, 2, 3);
        // In 5 words: 2 3 0 0, 2 0 3 0, 0 3 0 2, 0 0 3 2. One of 3 hears most of 0 0 3 2 (3), one of 2 of 2 0 3 0 (2) or 0 0 3 2 (2).
        Edge.due(x.together(0, 5, 1), 2);
        Edge.due(x.together(0, 5, 2), 3);
        Edge.due(x.together(0, 5, 3), 5);
        YearWords y = new YearWords();
        y.part(1, 1, 3, 0);
        y.part(4, 2, 2, 0);
        y.part(2, 1, 1, 0);
        Edge.tell(y, 0, 1, 2);
        Edge.hear(y, 1, 4);
        // In 5 words: 1 4 0 for one of 1 (1) and of 4 (1); 3 2 0 for neither more; 2 2 1 for one of 4 (2).
        Edge.due(y.together(0, 5, 1), 1);
        Edge.due(y.together(0, 5, 2), 2);
        Edge.due(y.together(0, 5, 3), 2);
    }

    @Says(promise = 28, words = "a set of HEARERS")
    static void anEmptySetHasUnderstoodNothing() {
        Edge.due(Edge.rich().together(0, 9, 0), 0);
        YearWords x = Edge.withParts();
        Edge.tell(x, 0);
        Edge.due(x.together(0, 3, 0), 0);
    }

    @Says(promise = 28, words = "a set of HEARERS")
    static void aSetOfAllTenHearersUnderstands() {
        YearWords x = Edge.withParts();
        Edge.tellTimes(x, 5, 10);
        for (int h = 0; h < 10; h++) {
            x.hearer(99);
        }
        Edge.due(x.together(0, 60, 1023), 100);
        Edge.due(x.together(0, 0, 1023), 100);
        Edge.due(x.together(0, 60, 512), 10);
        Edge.due(x.together(0, 60, 1024), Edge.BEYOND);
    }

    @Says(promise = 28, words = "(0 to 120) of a TALE")
    static void togetherIn0AndIn120Words() {
        YearWords x = new YearWords();
        x.part(5, 12, 12, 0);
        Edge.tellTimes(x, 0, 10);
        x.tale();
        Edge.hear(x, 0, 99);
        Edge.due(x.together(0, 0, 3), 20);
        Edge.due(x.together(0, 120, 3), 8);
        Edge.due(x.together(0, 1, 3), 19);
        Edge.due(x.together(1, 0, 3), 0);
    }

    @Says(promise = 28, words = "BEYOND.")
    static void togetherOutOfBoundsIsBeyond() {
        Edge.refused(Edge.BEYOND, x -> x.together(-1, 9, 1), x -> x.together(3, 9, 1), x -> x.together(Edge.LOW, 9, 1),
            x -> x.together(Edge.HIGH, 9, 1), x -> x.together(0, -1, 1), x -> x.together(0, 121, 1),
            x -> x.together(0, Edge.LOW, 1), x -> x.together(0, Edge.HIGH, 1));
    }

    @Says(promise = 28, words = "BEYOND.")
    static void aSetOfThoseWhoAreNotThereIsBeyond() {
        Edge.refused(Edge.BEYOND, x -> x.together(0, 9, 16), x -> x.together(0, 9, 17), x -> x.together(0, 9, -1),
            x -> x.together(0, 9, Edge.LOW), x -> x.together(0, 9, Edge.LOW + 1), x -> x.together(0, 9, Edge.HIGH));
        Edge.refused(Edge.BEYOND, () -> {
            YearWords x = Edge.withParts();
            Edge.tell(x, 0);
            return x;
        }, x -> x.together(0, 3, 1));
    }

    @Says(promise = 28, words = "NONE: it can't be said so.")
    static void togetherOfWhatCantBeSaidIsNone() {
        Edge.refused(Edge.NONE, x -> x.together(0, 3, 1), x -> x.together(0, 14, 15), x -> x.together(0, 3, 0),
            x -> x.together(1, 1, 4), x -> x.together(0, 120, 8), x -> x.together(2, 0, 4));
    }

    @Says(promise = 28, words = "BEYOND. NONE")
    static void aWrongTogetherIsBeyondAheadOfNone() {
        Edge.refused(Edge.BEYOND, x -> x.together(0, 3, 16), x -> x.together(0, 3, -1), x -> x.together(1, 121, 1));
    }

    // ---- promise 29

    @Says(promise = 29, words = "How many PARTS of a TALE come to a HEARER to whom it is passed on",
        terms = "TO PASS ON a TALE to a HEARER: if it CAN'T BE SAID, its last PART is left out, and so on, till it can; "
            + "what is left comes to that one.")
    static void lastPartsAreLeftOutTillItCanBeSaid() {
        YearWords x = withThree();
        // 3; 5 to 8; 5 to 12.
        int[] want = {0, 0, 0, 1, 0, 3, 3, 3, 3, 3, 3, 3, 3, 0};
        for (int age = 0; age < want.length; age++) {
            x.age(0, age);
            Edge.due(x.pass(0, 0), want[age]);
        }
        Edge.due(x.size(0), 3);
    }

    @Says(promise = 29, words = "(0: none)", terms = "if nothing can, nothing comes.)")
    static void nothingComesIfNothingCanBeSaid() {
        YearWords x = withThree();
        x.age(0, 0);
        Edge.due(x.pass(0, 0), 0);
        x.age(0, 99);
        Edge.due(x.pass(0, 0), 0);
        Edge.due(x.status(-1), 0);
    }

    @Says(promise = 29, words = "come to a HEARER", terms = "(An empty one CAN BE SAID to one of AGE 0 alone; if nothing can")
    static void ofAnEmptyTaleNoPartsCome() {
        YearWords x = Edge.rich();
        for (int h = 0; h < 4; h++) {
            Edge.due(x.pass(1, h), 0);
        }
    }

    @Says(promise = 29, words = "How many PARTS of a TALE come")
    static void partsOf0WordsComeToOneOf0() {
        YearWords x = Edge.withParts();
        Edge.tell(x, 2, 5, 2);
        Edge.tell(x, 2, 0);
        x.hearer(0);
        Edge.due(x.pass(0, 0), 3);
        Edge.due(x.pass(1, 0), 1);
    }

    @Says(promise = 29, words = "How many PARTS of a TALE come")
    static void allTenPartsCanCome() {
        YearWords x = new YearWords();
        x.part(5, 12, 12, 0);
        x.part(0, 12, 12, 0);
        Edge.tellTimes(x, 0, 10);
        Edge.tellTimes(x, 1, 10);
        Edge.hear(x, 99, 96);
        Edge.due(x.pass(0, 0), 10);
        Edge.due(x.pass(1, 0), 0);
        Edge.due(x.pass(1, 1), 8);
    }

    @Says(promise = 29, words = "BEYOND.")
    static void passOfNoSuchTaleOrHearerIsBeyond() {
        Edge.refused(Edge.BEYOND, x -> x.pass(-1, 0), x -> x.pass(3, 0), x -> x.pass(Edge.LOW, 0), x -> x.pass(Edge.HIGH, 0),
            x -> x.pass(0, -1), x -> x.pass(0, 4), x -> x.pass(0, Edge.LOW), x -> x.pass(0, Edge.HIGH));
    }

    /** TALE 0: WORD, NAME, LINK; one HEARER of 3. */
    private static YearWords withThree() {
        YearWords x = Edge.withParts();
        Edge.tell(x, 0, 1, 2);
        x.hearer(3);
        return x;
    }

    // ---- promise 30

    @Says(promise = 30, words = "How many come to the second of two, the first having passed on what came.",
        terms = "By a row of HEARERS: from one to the next, each time what came.")
    static void theSecondGetsOfWhatTheFirstGot() {
        YearWords x = withThree();
        Edge.hear(x, 6, 12, 99);
        Edge.due(x.through(0, 1, 2), 3);
        Edge.due(x.through(0, 1, 0), 1);
        Edge.due(x.through(0, 0, 1), 0);
        Edge.due(x.through(0, 2, 3), 0);
        Edge.due(x.through(0, 3, 2), 0);
    }

    @Says(promise = 30, words = "the second of two")
    static void oneCanBeFirstAndSecond() {
        YearWords x = withThree();
        x.hearer(12);
        Edge.due(x.through(0, 0, 0), 1);
        Edge.due(x.through(0, 1, 1), 3);
        Edge.due(x.status(-1), 0);
    }

    @Says(promise = 30, words = "BEYOND.")
    static void throughOfNoSuchTaleOrHearerIsBeyond() {
        Edge.refused(Edge.BEYOND, x -> x.through(-1, 0, 1), x -> x.through(3, 0, 1), x -> x.through(0, -1, 1),
            x -> x.through(0, 4, 1), x -> x.through(0, 0, -1), x -> x.through(0, 0, 4), x -> x.through(Edge.HIGH, 0, 1),
            x -> x.through(0, Edge.LOW, 1), x -> x.through(0, 0, Edge.HIGH));
    }

    // ---- promise 31

    @Says(promise = 31, words = "The HEARER (unlike both) by whom in the middle most PARTS of a TALE come from one to another one")
    static void theMiddleIsUnlikeBoth() {
        YearWords x = withThree();
        Edge.hear(x, 6, 12);
        // By the one of 12 all come, if he stands in the middle; by the one of 3 only one.
        Edge.due(x.middle(0, 1, 2), 0);
        Edge.due(x.middle(0, 2, 1), 0);
        x.hearer(7);
        Edge.due(x.middle(0, 1, 2), 3);
        Edge.due(x.middle(0, 2, 1), 3);
    }

    @Says(promise = 31, words = "of several the least.")
    static void ofSeveralInTheMiddleTheLeast() {
        YearWords x = withThree();
        Edge.hear(x, 6, 7, 8);
        Edge.due(x.middle(0, 1, 3), 2);
        x.hearer(9);
        Edge.due(x.middle(0, 3, 4), 1);
        x.age(1, 99);
        Edge.due(x.middle(0, 3, 4), 2);
        // Where nothing comes by anyone, the least there is.
        Edge.due(x.middle(0, 1, 4), 0);
    }

    @Says(promise = 31, words = "(It is passed to the first of both, to the middle one, to the last.)")
    static void theFirstAndTheLastAreToldApart() {
        YearWords x = withThree();
        Edge.hear(x, 12, 7, 3);
        // To one of 3 first: one PART, which only another of 3 can be told. To him last: one of all that came.
        Edge.due(x.middle(0, 0, 1), 2);
        Edge.due(x.middle(0, 0, 3), 1);
        Edge.due(x.middle(0, 1, 0), 2);
        x.age(2, 99);
        Edge.due(x.middle(0, 1, 0), 3);
        Edge.due(x.middle(0, 0, 1), 2);
    }

    @Says(promise = 31, words = "BEYOND")
    static void middleOfNoSuchTaleOrHearerIsBeyond() {
        Edge.refused(Edge.BEYOND, x -> x.middle(-1, 0, 1), x -> x.middle(3, 0, 1), x -> x.middle(0, -1, 1),
            x -> x.middle(0, 4, 1), x -> x.middle(0, 0, -1), x -> x.middle(0, 0, 4), x -> x.middle(Edge.LOW, 0, 1),
            x -> x.middle(0, Edge.HIGH, 1), x -> x.middle(0, 0, Edge.LOW));
    }

    @Says(promise = 31, words = "(also one and the same)")
    static void middleBetweenOneAndTheSameIsBeyond() {
        Edge.refused(Edge.BEYOND, x -> x.middle(0, 0, 0), x -> x.middle(0, 3, 3));
        Edge.refused(Edge.BEYOND, SeveralEdges::withThree, x -> x.middle(0, 0, 0));
    }

    @Says(promise = 31, words = "NONE: there is none unlike both.")
    static void middleOfTwoAloneIsNone() {
        Edge.refused(Edge.NONE, () -> {
            YearWords x = withThree();
            x.hearer(12);
            return x;
        }, x -> x.middle(0, 0, 1), x -> x.middle(0, 1, 0));
    }

    // ---- promise 32

    @Says(promise = 32, words = "How many come to the last of all HEARERS, told in order of numbers, 0 first.")
    static void aChainGoesInOrderOfNumbers() {
        YearWords x = withThree();
        Edge.due(x.chain(0), 1);
        x.hearer(12);
        Edge.due(x.chain(0), 0);
        x.age(0, 12);
        x.age(1, 3);
        Edge.due(x.chain(0), 1);
    }

    @Says(promise = 32, words = "the last of all HEARERS")
    static void aChainOfAllTen() {
        YearWords x = Edge.withParts();
        Edge.tell(x, 0, 1, 2);
        for (int h = 0; h < 9; h++) {
            x.hearer(8);
        }
        Edge.due(x.chain(0), 3);
        x.hearer(3);
        Edge.due(x.chain(0), 1);
        x.age(8, 99);
        Edge.due(x.chain(0), 0);
    }

    @Says(promise = 32, words = "BEYOND.")
    static void chainOfNoSuchTaleIsBeyond() {
        Edge.refused(Edge.BEYOND, x -> x.chain(-1), x -> x.chain(3), x -> x.chain(8), x -> x.chain(Edge.LOW),
            x -> x.chain(Edge.HIGH));
    }

    @Says(promise = 32, words = "NONE: there are none.")
    static void aChainOfNobodyIsNone() {
        Edge.refused(Edge.NONE, SeveralEdges::alone, x -> x.chain(0));
    }

    @Says(promise = 32, words = "BEYOND. NONE")
    static void aWrongChainOfNobodyIsBeyondAheadOfNone() {
        Edge.refused(Edge.BEYOND, SeveralEdges::alone, x -> x.chain(1), x -> x.chain(-1));
    }

    /** A TALE, but no HEARER. */
    private static YearWords alone() {
        YearWords x = Edge.withParts();
        Edge.tell(x, 0, 1, 2);
        return x;
    }

    // ---- promise 33

    @Says(promise = 33, words = "To whom a TALE that HEARER 0 has whole can come whole")
    static void hearer0HasItWholeWhateverHisAge() {
        YearWords x = Edge.withParts();
        Edge.tell(x, 0);
        Edge.hear(x, 50, 3, 3);
        Edge.due(x.spread(0, 46), 1);
        Edge.due(x.spread(0, 47), 7);
    }

    @Says(promise = 33, words = "if one says it (again and again)")
    static void itIsToldOnAgainAndAgain() {
        YearWords x = Edge.withParts();
        Edge.tellTimes(x, 5, 10);
        // Each can be told only by the one whose number is one more; HEARER 0 begins.
        Edge.hear(x, 50, 5, 10, 15, 20, 25, 30, 35, 40, 45);
        Edge.due(x.spread(0, 5), 1023);
        Edge.due(x.spread(0, 4), 1);
        x.age(5, 24);
        Edge.due(x.spread(0, 5), Edge.setOf(0, 6, 7, 8, 9));
    }

    @Says(promise = 33, words = "only to one whose AGE is at most far")
    static void justFarIsNotTooFar() {
        YearWords x = Edge.withParts();
        Edge.tellTimes(x, 5, 3);
        Edge.hear(x, 10, 13, 7);
        Edge.due(x.spread(0, 2), 1);
        Edge.due(x.spread(0, 3), 7);
    }

    @Says(promise = 33, words = "more or less than one's own")
    static void farIsUpwardsAndDownwards() {
        YearWords x = Edge.withParts();
        Edge.tellTimes(x, 5, 3);
        Edge.hear(x, 10, 14);
        Edge.due(x.spread(0, 4), 3);
        x.age(1, 6);
        Edge.due(x.spread(0, 4), 3);
        Edge.due(x.spread(0, 3), 1);
    }

    @Says(promise = 33, words = "(0 to 99)")
    static void farIs0To99() {
        YearWords x = Edge.withParts();
        Edge.tell(x, 0);
        x.tale();
        Edge.hear(x, 3, 3, 4, 99, 0);
        Edge.due(x.spread(0, 0), 3);
        Edge.due(x.spread(0, 99), 3);
        x.age(0, 99);
        Edge.due(x.spread(1, 98), 1);
        Edge.due(x.spread(1, 99), Edge.setOf(0, 4));
    }

    @Says(promise = 33, words = "and to whom it CAN BE SAID")
    static void whoCantBeToldDoesntTellOn() {
        YearWords x = Edge.withParts();
        Edge.tell(x, 0, 2);
        Edge.hear(x, 3, 5, 7);
        // From 3 to 7 it would go by way of 5, to whom it can't be said.
        Edge.due(x.spread(0, 2), 1);
        Edge.due(x.spread(0, 4), Edge.setOf(0, 2));
    }

    @Says(promise = 33, words = "as a set (0, too).")
    static void hearer0StandsInTheSet() {
        Edge.due(Edge.rich().spread(0, 0) & 1, 1);
        YearWords x = Edge.withParts();
        Edge.tell(x, 0);
        x.hearer(99);
        Edge.due(x.spread(0, 0), 1);
    }

    @Says(promise = 33, words = "BEYOND.")
    static void spreadOutOfBoundsIsBeyond() {
        Edge.refused(Edge.BEYOND, x -> x.spread(-1, 5), x -> x.spread(3, 5), x -> x.spread(Edge.LOW, 5),
            x -> x.spread(Edge.HIGH, 5), x -> x.spread(0, -1), x -> x.spread(0, 100), x -> x.spread(0, Edge.LOW),
            x -> x.spread(0, Edge.HIGH));
    }

    @Says(promise = 33, words = "NONE: there is no HEARER.")
    static void spreadFromNobodyIsNone() {
        Edge.refused(Edge.NONE, SeveralEdges::alone, x -> x.spread(0, 0), x -> x.spread(0, 99));
    }

    @Says(promise = 33, words = "BEYOND. NONE")
    static void aWrongSpreadFromNobodyIsBeyondAheadOfNone() {
        Edge.refused(Edge.BEYOND, SeveralEdges::alone, x -> x.spread(1, 0), x -> x.spread(0, 100), x -> x.spread(0, -1));
    }
}
