/** Boundary cases of promises 27 to 33: several at once, passing on. */
final class SeveralEdges extends Edge {
    private SeveralEdges() {
    }

    // ---- promise 27

    @Says(promise = 27, words = "How many PARTS a HEARER has UNDERSTOOD of BEST of a TALE",
        terms = "HEARD at once: a SAYING of n words is said; a HEARER hears its first AGE words, "
            + "and has UNDERSTOOD a PART, if all words of it and of those ahead of it are among these")
    static void aPartIsUnderstoodIfAgeReachesItsEnd() {
        YearWords x = rich();
        // BEST in 9 words: 5 and 4.
        int[] ages = {0, 4, 5, 8, 9, 10, 99};
        int[] want = {0, 0, 1, 1, 2, 2, 2};
        for (int i = 0; i < ages.length; i++) {
            x.age(0, ages[i]);
            due(x.heard(0, 9, 0), want[i]);
        }
    }

    @Says(promise = 27, words = "UNDERSTOOD", terms = "(a PART of 0 words, too).")
    static void aPartOf0WordsIsUnderstoodToo() {
        YearWords x = withParts();
        tell(x, 2, 2);
        tell(x, 0, 2);
        hear(x, 0, 2, 3);
        due(x.heard(0, 0, 0), 2);
        // 0 and 4 words: the first is understood by one of 0.
        due(x.heard(0, 4, 0), 1);
        // 3 and 0 words: whoever has not understood the first doesn't understand the second.
        due(x.heard(1, 3, 1), 0);
        due(x.heard(1, 3, 2), 2);
    }

    @Says(promise = 27, words = "of BEST of a TALE")
    static void ofSeveralBestTheFirstIsHeard() {
        YearWords x = new YearWords();
        x.part(1, 1, 4, 3);
        tell(x, 0, 0, 0);
        hear(x, 1, 3, 4);
        // 1, 3 and 4 words.
        due(x.heard(0, 8, 0), 1);
        due(x.heard(0, 8, 1), 1);
        due(x.heard(0, 8, 2), 2);
    }

    @Says(promise = 27, words = "in n words (0 to 120)")
    static void heardIn0AndIn120Words() {
        YearWords x = new YearWords();
        x.part(0, 12, 12, 0);
        tellTimes(x, 0, 10);
        x.tale();
        hear(x, 99, 0);
        due(x.heard(0, 120, 0), 8);
        due(x.heard(0, 120, 1), 0);
        due(x.heard(1, 0, 1), 0);
    }

    @Says(promise = 27, words = "BEYOND.")
    static void heardOutOfBoundsIsBeyond() {
        refused(BEYOND, x -> x.heard(-1, 9, 0), x -> x.heard(3, 9, 0), x -> x.heard(LOW, 9, 0),
            x -> x.heard(HIGH, 9, 0), x -> x.heard(0, -1, 0), x -> x.heard(0, 121, 0), x -> x.heard(0, LOW, 0),
            x -> x.heard(0, HIGH, 0), x -> x.heard(0, 9, -1), x -> x.heard(0, 9, 4), x -> x.heard(0, 9, LOW),
            x -> x.heard(0, 9, HIGH));
    }

    @Says(promise = 27, words = "NONE: it can't be said so.")
    static void heardOfWhatCantBeSaidIsNone() {
        refused(NONE, x -> x.heard(0, 3, 0), x -> x.heard(0, 14, 0), x -> x.heard(0, 0, 2),
            x -> x.heard(0, 120, 3), x -> x.heard(1, 1, 0));
    }

    @Says(promise = 27, words = "BEYOND. NONE")
    static void aWrongHeardIsBeyondAheadOfNone() {
        refused(BEYOND, x -> x.heard(0, 3, 4), x -> x.heard(0, 3, -1), x -> x.heard(1, 121, 0));
    }

    // ---- promise 28

    @Says(promise = 28, words = "The most PARTS that a set of HEARERS can have UNDERSTOOD, all together")
    static void theSetsPartsAreCountedForEachHearer() {
        YearWords x = rich();
        // In 9 words, as 3 and 6 or 5 and 4: of 9, 4, 0 and 99 two understand all, and one the first part of three words.
        due(x.together(0, 9, 15), 5);
        due(x.together(0, 9, 1), 2);
        due(x.together(0, 9, 2), 1);
        due(x.together(0, 9, 4), 0);
        due(x.together(0, 9, 8), 2);
    }

    @Says(promise = 28, words = "of one SAYING of n words")
    static void oneSayingIsForAllOfThem() {
        YearWords x = new YearWords();
        x.part(2, 2, 2, 0);
        x.part(2, 3, 3, 0);
        x.part(2, 3, 3, 0);
        x.part(2, 2, 2, 0);
        tell(x, 0, 1, 2, 3);
        hear(x, 2, 3);
        // In 5 words: 2 3 0 0, 2 0 3 0, 0 3 0 2, 0 0 3 2. One of 3 hears most of 0 0 3 2 (3), one of 2 of 2 0 3 0 (2) or 0 0 3 2 (2).
        due(x.together(0, 5, 1), 2);
        due(x.together(0, 5, 2), 3);
        due(x.together(0, 5, 3), 5);
        YearWords y = new YearWords();
        y.part(1, 1, 3, 0);
        y.part(4, 2, 2, 0);
        y.part(2, 1, 1, 0);
        tell(y, 0, 1, 2);
        hear(y, 1, 4);
        // In 5 words: 1 4 0 for one of 1 (1) and of 4 (1); 3 2 0 for neither more; 2 2 1 for one of 4 (2).
        due(y.together(0, 5, 1), 1);
        due(y.together(0, 5, 2), 2);
        due(y.together(0, 5, 3), 2);
    }

    @Says(promise = 28, words = "a set of HEARERS")
    static void anEmptySetHasUnderstoodNothing() {
        due(rich().together(0, 9, 0), 0);
        YearWords x = withParts();
        tell(x, 0);
        due(x.together(0, 3, 0), 0);
    }

    @Says(promise = 28, words = "a set of HEARERS")
    static void aSetOfAllTenHearersUnderstands() {
        YearWords x = withParts();
        tellTimes(x, 5, 10);
        for (int h = 0; h < 10; h++) {
            x.hearer(99);
        }
        due(x.together(0, 60, 1023), 100);
        due(x.together(0, 0, 1023), 100);
        due(x.together(0, 60, 512), 10);
        due(x.together(0, 60, 1024), BEYOND);
    }

    @Says(promise = 28, words = "(0 to 120) of a TALE")
    static void togetherIn0AndIn120Words() {
        YearWords x = new YearWords();
        x.part(5, 12, 12, 0);
        tellTimes(x, 0, 10);
        x.tale();
        hear(x, 0, 99);
        due(x.together(0, 0, 3), 20);
        due(x.together(0, 120, 3), 8);
        due(x.together(0, 1, 3), 19);
        due(x.together(1, 0, 3), 0);
    }

    @Says(promise = 28, words = "of one SAYING of n words")
    static void theLongestLengthIsHeardTogether() {
        YearWords x = new YearWords();
        x.part(4, 12, 12, 1);
        tellTimes(x, 0, 2);
        hear(x, 24, 23);
        due(x.together(0, 48, 3), 1);
        due(x.together(0, 48, 2), 0);
        due(x.together(0, 36, 3), 2);
    }

    @Says(promise = 28, words = "BEYOND.")
    static void togetherOutOfBoundsIsBeyond() {
        refused(BEYOND, x -> x.together(-1, 9, 1), x -> x.together(3, 9, 1), x -> x.together(LOW, 9, 1),
            x -> x.together(HIGH, 9, 1), x -> x.together(0, -1, 1), x -> x.together(0, 121, 1),
            x -> x.together(0, LOW, 1), x -> x.together(0, HIGH, 1));
    }

    @Says(promise = 28, words = "BEYOND.")
    static void aSetOfThoseWhoAreNotThereIsBeyond() {
        refused(BEYOND, x -> x.together(0, 9, 16), x -> x.together(0, 9, 17), x -> x.together(0, 9, -1),
            x -> x.together(0, 9, LOW), x -> x.together(0, 9, LOW + 1), x -> x.together(0, 9, HIGH));
        refused(BEYOND, () -> {
            YearWords x = withParts();
            tell(x, 0);
            return x;
        }, x -> x.together(0, 3, 1));
    }

    @Says(promise = 28, words = "NONE: it can't be said so.")
    static void togetherOfWhatCantBeSaidIsNone() {
        refused(NONE, x -> x.together(0, 3, 1), x -> x.together(0, 14, 15), x -> x.together(0, 3, 0),
            x -> x.together(1, 1, 4), x -> x.together(0, 120, 8), x -> x.together(2, 0, 4));
    }

    @Says(promise = 28, words = "BEYOND. NONE")
    static void aWrongTogetherIsBeyondAheadOfNone() {
        refused(BEYOND, x -> x.together(0, 3, 16), x -> x.together(0, 3, -1), x -> x.together(1, 121, 1));
    }

    // ---- promise 29

    @Says(promise = 29, words = "How many PARTS of a TALE come to a HEARER to whom it is passed on",
        terms = "TO PASS ON a TALE to a HEARER: if it CAN'T BE SAID, its last PART is left out, and so on, till it can; "
            + "what is left comes to that one.")
    static void lastPartsAreLeftOutTillItCanBeSaid() {
        YearWords x = withThree();
        // 3; 5 to 8; 5 to 12.
        int[] want = {0, 0, 0, 1, 0, 3, 3, 3, 3, 3, 3, 3, 3, 0};
        for (int age = 0; age < want.length; age++) {
            x.age(0, age);
            due(x.pass(0, 0), want[age]);
        }
        due(x.size(0), 3);
    }

    @Says(promise = 29, words = "(0: none)", terms = "if nothing can, nothing comes.)")
    static void nothingComesIfNothingCanBeSaid() {
        YearWords x = withThree();
        x.age(0, 0);
        due(x.pass(0, 0), 0);
        x.age(0, 99);
        due(x.pass(0, 0), 0);
        due(x.status(-1), 0);
    }

    @Says(promise = 29, words = "come to a HEARER", terms = "(An empty one CAN BE SAID to one of AGE 0 alone; if nothing can")
    static void ofAnEmptyTaleNoPartsCome() {
        YearWords x = rich();
        for (int h = 0; h < 4; h++) {
            due(x.pass(1, h), 0);
        }
    }

    @Says(promise = 29, words = "How many PARTS of a TALE come")
    static void partsOf0WordsComeToOneOf0() {
        YearWords x = withParts();
        tell(x, 2, 5, 2);
        tell(x, 2, 0);
        x.hearer(0);
        due(x.pass(0, 0), 3);
        due(x.pass(1, 0), 1);
    }

    @Says(promise = 29, words = "How many PARTS of a TALE come")
    static void allTenPartsCanCome() {
        YearWords x = new YearWords();
        x.part(5, 12, 12, 0);
        x.part(0, 12, 12, 0);
        tellTimes(x, 0, 10);
        tellTimes(x, 1, 10);
        hear(x, 99, 96);
        due(x.pass(0, 0), 10);
        due(x.pass(1, 0), 0);
        due(x.pass(1, 1), 8);
    }

    @Says(promise = 29, words = "BEYOND.")
    static void passOfNoSuchTaleOrHearerIsBeyond() {
        refused(BEYOND, x -> x.pass(-1, 0), x -> x.pass(3, 0), x -> x.pass(LOW, 0), x -> x.pass(HIGH, 0),
            x -> x.pass(0, -1), x -> x.pass(0, 4), x -> x.pass(0, LOW), x -> x.pass(0, HIGH));
    }

    /** TALE 0: WORD, NAME, LINK; one HEARER of 3. */
    private static YearWords withThree() {
        YearWords x = withParts();
        tell(x, 0, 1, 2);
        x.hearer(3);
        return x;
    }

    // ---- promise 30

    @Says(promise = 30, words = "How many come to the second of two, the first having passed on what came.",
        terms = "By a row of HEARERS: from one to the next, each time what came.")
    static void theSecondGetsOfWhatTheFirstGot() {
        YearWords x = withThree();
        hear(x, 6, 12, 99);
        due(x.through(0, 1, 2), 3);
        due(x.through(0, 1, 0), 1);
        due(x.through(0, 0, 1), 0);
        due(x.through(0, 2, 3), 0);
        due(x.through(0, 3, 2), 0);
    }

    @Says(promise = 30, words = "the second of two")
    static void oneCanBeFirstAndSecond() {
        YearWords x = withThree();
        x.hearer(12);
        due(x.through(0, 0, 0), 1);
        due(x.through(0, 1, 1), 3);
        due(x.status(-1), 0);
    }

    @Says(promise = 30, words = "BEYOND.")
    static void throughOfNoSuchTaleOrHearerIsBeyond() {
        refused(BEYOND, x -> x.through(-1, 0, 1), x -> x.through(3, 0, 1), x -> x.through(0, -1, 1),
            x -> x.through(0, 4, 1), x -> x.through(0, 0, -1), x -> x.through(0, 0, 4), x -> x.through(HIGH, 0, 1),
            x -> x.through(0, LOW, 1), x -> x.through(0, 0, HIGH));
    }

    // ---- promise 31

    @Says(promise = 31, words = "The HEARER (unlike both) by whom in the middle most PARTS of a TALE come from one to another one")
    static void theMiddleIsUnlikeBoth() {
        YearWords x = withThree();
        hear(x, 6, 12);
        // By the one of 12 all come, if he stands in the middle; by the one of 3 only one.
        due(x.middle(0, 1, 2), 0);
        due(x.middle(0, 2, 1), 0);
        x.hearer(7);
        due(x.middle(0, 1, 2), 3);
        due(x.middle(0, 2, 1), 3);
    }

    @Says(promise = 31, words = "of several the least.")
    static void ofSeveralInTheMiddleTheLeast() {
        YearWords x = withThree();
        hear(x, 6, 7, 8);
        due(x.middle(0, 1, 3), 2);
        x.hearer(9);
        due(x.middle(0, 3, 4), 1);
        x.age(1, 99);
        due(x.middle(0, 3, 4), 2);
        // Where nothing comes by anyone, the least there is.
        due(x.middle(0, 1, 4), 0);
    }

    @Says(promise = 31, words = "(It is passed to the first of both, to the middle one, to the last.)")
    static void theFirstAndTheLastAreToldApart() {
        YearWords x = withThree();
        hear(x, 12, 7, 3);
        // To one of 3 first: one PART, which only another of 3 can be told. To him last: one of all that came.
        due(x.middle(0, 0, 1), 2);
        due(x.middle(0, 0, 3), 1);
        due(x.middle(0, 1, 0), 2);
        x.age(2, 99);
        due(x.middle(0, 1, 0), 3);
        due(x.middle(0, 0, 1), 2);
    }

    @Says(promise = 31, words = "BEYOND")
    static void middleOfNoSuchTaleOrHearerIsBeyond() {
        refused(BEYOND, x -> x.middle(-1, 0, 1), x -> x.middle(3, 0, 1), x -> x.middle(0, -1, 1),
            x -> x.middle(0, 4, 1), x -> x.middle(0, 0, -1), x -> x.middle(0, 0, 4), x -> x.middle(LOW, 0, 1),
            x -> x.middle(0, HIGH, 1), x -> x.middle(0, 0, LOW));
    }

    @Says(promise = 31, words = "(also one and the same)")
    static void middleBetweenOneAndTheSameIsBeyond() {
        refused(BEYOND, x -> x.middle(0, 0, 0), x -> x.middle(0, 3, 3));
        refused(BEYOND, SeveralEdges::withThree, x -> x.middle(0, 0, 0));
    }

    @Says(promise = 31, words = "NONE: there is none unlike both.")
    static void middleOfTwoAloneIsNone() {
        refused(NONE, () -> {
            YearWords x = withThree();
            x.hearer(12);
            return x;
        }, x -> x.middle(0, 0, 1), x -> x.middle(0, 1, 0));
    }

    // ---- promise 32

    @Says(promise = 32, words = "How many come to the last of all HEARERS, told in order of numbers, 0 first.")
    static void aChainGoesInOrderOfNumbers() {
        YearWords x = withThree();
        due(x.chain(0), 1);
        x.hearer(12);
        due(x.chain(0), 0);
        x.age(0, 12);
        x.age(1, 3);
        due(x.chain(0), 1);
    }

    @Says(promise = 32, words = "the last of all HEARERS")
    static void aChainOfAllTen() {
        YearWords x = withParts();
        tell(x, 0, 1, 2);
        for (int h = 0; h < 9; h++) {
            x.hearer(8);
        }
        due(x.chain(0), 3);
        x.hearer(3);
        due(x.chain(0), 1);
        x.age(8, 99);
        due(x.chain(0), 0);
    }

    @Says(promise = 32, words = "BEYOND.")
    static void chainOfNoSuchTaleIsBeyond() {
        refused(BEYOND, x -> x.chain(-1), x -> x.chain(3), x -> x.chain(8), x -> x.chain(LOW),
            x -> x.chain(HIGH));
    }

    @Says(promise = 32, words = "NONE: there are none.")
    static void aChainOfNobodyIsNone() {
        refused(NONE, SeveralEdges::alone, x -> x.chain(0));
    }

    @Says(promise = 32, words = "BEYOND. NONE")
    static void aWrongChainOfNobodyIsBeyondAheadOfNone() {
        refused(BEYOND, SeveralEdges::alone, x -> x.chain(1), x -> x.chain(-1));
    }

    /** A TALE, but no HEARER. */
    private static YearWords alone() {
        YearWords x = withParts();
        tell(x, 0, 1, 2);
        return x;
    }

    // ---- promise 33

    @Says(promise = 33, words = "To whom a TALE that HEARER 0 has whole can come whole")
    static void hearer0HasItWholeWhateverHisAge() {
        YearWords x = withParts();
        tell(x, 0);
        hear(x, 50, 3, 3);
        due(x.spread(0, 46), 1);
        due(x.spread(0, 47), 7);
    }

    @Says(promise = 33, words = "if one says it (again and again)")
    static void itIsToldOnAgainAndAgain() {
        YearWords x = withParts();
        tellTimes(x, 5, 10);
        // Each can be told only by the one whose number is one more; HEARER 0 begins.
        hear(x, 50, 5, 10, 15, 20, 25, 30, 35, 40, 45);
        due(x.spread(0, 5), 1023);
        due(x.spread(0, 4), 1);
        x.age(5, 24);
        due(x.spread(0, 5), setOf(0, 6, 7, 8, 9));
    }

    @Says(promise = 33, words = "only to one whose AGE is at most far")
    static void justFarIsNotTooFar() {
        YearWords x = withParts();
        tellTimes(x, 5, 3);
        hear(x, 10, 13, 7);
        due(x.spread(0, 2), 1);
        due(x.spread(0, 3), 7);
    }

    @Says(promise = 33, words = "more or less than one's own")
    static void farIsUpwardsAndDownwards() {
        YearWords x = withParts();
        tellTimes(x, 5, 3);
        hear(x, 10, 14);
        due(x.spread(0, 4), 3);
        x.age(1, 6);
        due(x.spread(0, 4), 3);
        due(x.spread(0, 3), 1);
    }

    @Says(promise = 33, words = "(0 to 99)")
    static void farIs0To99() {
        YearWords x = withParts();
        tell(x, 0);
        x.tale();
        hear(x, 3, 3, 4, 99, 0);
        due(x.spread(0, 0), 3);
        due(x.spread(0, 99), 3);
        x.age(0, 99);
        due(x.spread(1, 98), 1);
        due(x.spread(1, 99), setOf(0, 4));
    }

    @Says(promise = 33, words = "and to whom it CAN BE SAID")
    static void whoCantBeToldDoesntTellOn() {
        YearWords x = withParts();
        tell(x, 0, 2);
        hear(x, 3, 5, 7);
        // From 3 to 7 it would go by way of 5, to whom it can't be said.
        due(x.spread(0, 2), 1);
        due(x.spread(0, 4), setOf(0, 2));
    }

    @Says(promise = 33, words = "as a set (0, too).")
    static void hearer0StandsInTheSet() {
        due(rich().spread(0, 0) & 1, 1);
        YearWords x = withParts();
        tell(x, 0);
        x.hearer(99);
        due(x.spread(0, 0), 1);
    }

    @Says(promise = 33, words = "BEYOND.")
    static void spreadOutOfBoundsIsBeyond() {
        refused(BEYOND, x -> x.spread(-1, 5), x -> x.spread(3, 5), x -> x.spread(LOW, 5),
            x -> x.spread(HIGH, 5), x -> x.spread(0, -1), x -> x.spread(0, 100), x -> x.spread(0, LOW),
            x -> x.spread(0, HIGH));
    }

    @Says(promise = 33, words = "NONE: there is no HEARER.")
    static void spreadFromNobodyIsNone() {
        refused(NONE, SeveralEdges::alone, x -> x.spread(0, 0), x -> x.spread(0, 99));
    }

    @Says(promise = 33, words = "BEYOND. NONE")
    static void aWrongSpreadFromNobodyIsBeyondAheadOfNone() {
        refused(BEYOND, SeveralEdges::alone, x -> x.spread(1, 0), x -> x.spread(0, 100), x -> x.spread(0, -1));
    }
}
