/** Boundary cases of promises 8 to 18: TALES. */
final class TaleEdges extends Edge {
    private TaleEdges() {
    }

    // ---- promise 8

    @Says(promise = 8, words = "A new TALE, empty: its number.", terms = {"TALES 0, 1, ..", "empty at first"})
    static void talesAreNumberedFrom0AndEmpty() {
        YearWords x = withParts();
        for (int t = 0; t < 8; t++) {
            due(x.tale(), t);
            due(x.size(t), 0);
            x.tell(t, 0);
        }
        due(x.size(0), 1);
        due(x.size(7), 1);
    }

    @Says(promise = 8, words = "empty")
    static void aTaleIsEmptyWhereAnotherWasTakenBack() {
        YearWords x = rich();
        tell(x, 0, 1, 2);
        x.undo();
        due(x.tale(), 3);
        due(x.size(3), 0);
        x.wipe();
        due(book(x, "tale of 1 1 1 1;x"), -17);
        due(x.tale(), 4);
        due(x.size(4), 0);
    }

    @Says(promise = 8, words = "FULL.", terms = "(at most 8)")
    static void the9thTaleIsFull() {
        due(eight().count(1), 8);
        refused(FULL, TaleEdges::eight, x -> x.tale());
    }

    private static YearWords eight() {
        YearWords x = withParts();
        for (int t = 0; t < 8; t++) {
            tell(x, t % 6);
        }
        return x;
    }

    // ---- promise 9

    @Says(promise = 9, words = "A PART comes behind a TALE: how many it has.", terms = "are rows of PARTS (10 at most")
    static void tenPartsComeBehindATale() {
        YearWords x = withParts();
        x.tale();
        x.tale();
        for (int i = 0; i < 10; i++) {
            due(x.tell(0, i % 6), i + 1);
            due(x.tell(1, 5 - i % 6), i + 1);
        }
        for (int i = 0; i < 10; i++) {
            due(x.ith(0, i), i % 6);
            due(x.ith(1, i), 5 - i % 6);
        }
    }

    @Says(promise = 9, words = "A PART comes behind a TALE", terms = "one PART more than once, too)")
    static void onePartMayStandMoreThanOnce() {
        YearWords x = withParts();
        x.tale();
        due(x.tell(0, 3), 1);
        due(x.tell(0, 3), 2);
        due(x.ways(0, 6), 1);
        due(x.ways(0, 8), 2);
    }

    @Says(promise = 9, words = "BEYOND.")
    static void tellOfNoSuchTaleOrPartIsBeyond() {
        refused(BEYOND, x -> x.tell(-1, 0), x -> x.tell(3, 0), x -> x.tell(8, 0), x -> x.tell(LOW, 0),
            x -> x.tell(HIGH, 0), x -> x.tell(0, -1), x -> x.tell(0, 6), x -> x.tell(0, 16), x -> x.tell(0, LOW),
            x -> x.tell(0, HIGH));
    }

    @Says(promise = 9, words = "FULL: it has 10.")
    static void the11thPartOfATaleIsFull() {
        refused(FULL, TaleEdges::tenTold, x -> x.tell(0, 0), x -> x.tell(0, 1));
        YearWords x = tenTold();
        x.cut(0);
        due(x.tell(0, 1), 10);
    }

    @Says(promise = 9, words = "BEYOND. FULL")
    static void aWrong11thPartIsBeyondAheadOfFull() {
        refused(BEYOND, TaleEdges::tenTold, x -> x.tell(0, 2), x -> x.tell(0, -1));
    }

    /** TALE 0 has PART 0 ten times: a WORD of 12. PART 1 is a NAME of 1 to 12. */
    private static YearWords tenTold() {
        YearWords x = new YearWords();
        x.part(0, 12, 12, 1);
        x.part(1, 1, 12, 1);
        tellTimes(x, 0, 10);
        return x;
    }

    // ---- promise 10

    @Says(promise = 10, words = "The last PART of a TALE is left out: which.")
    static void aTaleIsCutFromItsEnd() {
        YearWords x = rich();
        due(x.cut(0), 4);
        due(x.size(0), 1);
        due(x.cut(0), 1);
        due(x.size(0), 0);
        due(x.size(2), 2);
        due(x.tell(0, 5), 1);
        due(x.ith(0, 0), 5);
    }

    @Says(promise = 10, words = "BEYOND.")
    static void cutOfNoSuchTaleIsBeyond() {
        refused(BEYOND, x -> x.cut(-1), x -> x.cut(3), x -> x.cut(8), x -> x.cut(LOW), x -> x.cut(HIGH));
    }

    @Says(promise = 10, words = "NONE: it is empty.")
    static void cutOfAnEmptyTaleIsNone() {
        refused(NONE, x -> x.cut(1));
    }

    // ---- promise 11

    @Says(promise = 11, words = "The i-th PART of a TALE.")
    static void partsOfATaleAreToldFrom0() {
        YearWords x = rich();
        due(x.ith(0, 0), 1);
        due(x.ith(0, 1), 4);
        due(tenTold().ith(0, 9), 0);
    }

    @Says(promise = 11, words = "BEYOND.")
    static void ithOfNoSuchTaleOrPlaceIsBeyond() {
        refused(BEYOND, x -> x.ith(-1, 0), x -> x.ith(3, 0), x -> x.ith(LOW, 0), x -> x.ith(HIGH, 0),
            x -> x.ith(0, -1), x -> x.ith(0, 2), x -> x.ith(1, 0), x -> x.ith(0, 10), x -> x.ith(0, LOW),
            x -> x.ith(0, HIGH));
        refused(BEYOND, TaleEdges::tenTold, x -> x.ith(0, 10));
    }

    @Says(promise = 11, words = "BEYOND.")
    static void ithOfWhatWasCutIsBeyond() {
        YearWords x = rich();
        x.cut(0);
        due(x.ith(0, 1), BEYOND);
        due(x.ith(0, 0), 1);
    }

    // ---- promise 12

    @Says(promise = 12, words = "How many PARTS a TALE has.")
    static void aTaleHas0To10Parts() {
        due(rich().size(1), 0);
        due(tenTold().size(0), 10);
    }

    @Says(promise = 12, words = "BEYOND.")
    static void sizeOfNoSuchTaleIsBeyond() {
        refused(BEYOND, x -> x.size(-1), x -> x.size(3), x -> x.size(8), x -> x.size(LOW),
            x -> x.size(HIGH));
    }

    // ---- promise 13

    @Says(promise = 13, words = "WAYS of a TALE in n words",
        terms = {"A SAYING of a TALE: for each PART in it one of its LENGTHS.",
            "WAYS of a TALE in n words: how many SAYINGS of it have n words."})
    static void aLengthCountsOnceForEachPart() {
        YearWords x = rich();
        // NAME 2 to 5 and ECHO 2, 3, 4, 6, 8: 4 is twice 2, too, and yet one LENGTH.
        long[] want = {0, 0, 0, 0, 1, 2, 3, 3, 3, 2, 2, 2, 1, 1, 0};
        for (int n = 0; n < want.length; n++) {
            due(x.ways(0, n), want[n]);
        }
    }

    @Says(promise = 13, words = "WAYS of a TALE in n words")
    static void anEmptyTaleHasOneWayIn0Words() {
        YearWords x = rich();
        due(x.ways(1, 0), 1);
        due(x.ways(1, 1), 0);
        due(x.ways(1, 120), 0);
    }

    @Says(promise = 13, words = "(0 to 120)", terms = "Its words: these together (120 at most are asked for).")
    static void waysIn0AndIn120Words() {
        YearWords x = tenTold();
        due(x.ways(0, 120), 1);
        due(x.ways(0, 119), 0);
        due(x.ways(0, 0), 0);
        x.turn(0, 5);
        due(x.ways(0, 0), 1);
        due(x.ways(0, 1), 10);
        due(x.ways(0, 119), 10);
        due(x.ways(0, 120), 1);
        x.turn(0, 4);
        due(x.ways(0, 120), 1);
    }

    @Says(promise = 13, words = "WAYS of a TALE in n words")
    static void waysCanBeMoreThanAnIntHolds() {
        YearWords x = tenTold();
        x.turn(0, 5);
        due(x.ways(0, 60), 4577127763L);
    }

    @Says(promise = 13, words = "WAYS of a TALE in n words")
    static void theLongestLengthIsAWayToo() {
        YearWords x = echoes();
        due(x.ways(0, 24), 1);
        due(x.ways(0, 36), 2);
        due(x.ways(0, 48), 1);
        due(x.ways(0, 47), 0);
    }

    @Says(promise = 13, words = "BEYOND.", terms = "(in longs, too)")
    static void waysOutOfBoundsIsBeyond() {
        refused(BEYOND, x -> x.ways(0, -1), x -> x.ways(0, 121), x -> x.ways(0, LOW),
            x -> x.ways(0, HIGH), x -> x.ways(-1, 5), x -> x.ways(3, 5), x -> x.ways(LOW, 0),
            x -> x.ways(HIGH, 0));
    }

    // ---- promise 14

    @Says(promise = 14, words = "WAYS of a TALE in all.")
    static void waysInAllAreThoseOfEveryNumberOfWords() {
        YearWords x = rich();
        due(x.allWays(0), 20);
        due(x.allWays(1), 1);
        due(x.allWays(2), 2);
        due(tenTold().allWays(0), 1);
    }

    @Says(promise = 14, words = "in all")
    static void waysInAllHaveThoseAbove120WordsToo() {
        YearWords x = tenTold();
        x.turn(0, 4);
        due(x.allWays(0), 1024);
        due(tellTimes(x, 1, 10), 1);
        x.turn(1, 4);
        due(x.allWays(1), 3570467226624L);
    }

    @Says(promise = 14, words = "BEYOND.")
    static void allWaysOfNoSuchTaleIsBeyond() {
        refused(BEYOND, x -> x.allWays(-1), x -> x.allWays(3), x -> x.allWays(8), x -> x.allWays(LOW),
            x -> x.allWays(HIGH));
    }

    // ---- promise 15

    @Says(promise = 15, words = "The fewest words (what 0)")
    static void theFewestWordsAre0To120() {
        due(rich().length(0, 0), 4);
        due(tenTold().length(0, 0), 120);
        YearWords x = tenTold();
        x.turn(0, 2);
        due(x.length(0, 0), 0);
    }

    @Says(promise = 15, words = "the most (1) in which a TALE can be said (up to 120)")
    static void theMostWordsAreUpTo120() {
        due(rich().length(0, 1), 13);
        YearWords x = tenTold();
        due(x.length(0, 1), 120);
        x.turn(0, 4);
        due(x.length(0, 1), 120);
        due(x.length(0, 0), 120);
        // Twelve or 24 each, and up to 24 of the last: 24 * 4 and 12 and 12 at most.
        x.cut(0);
        x.tell(0, 1);
        x.turn(1, 4);
        due(x.length(0, 0), 109);
        due(x.length(0, 1), 120);
        x.set(1, 2, 5);
        due(x.length(0, 1), 118);
    }

    @Says(promise = 15, words = "how many numbers of words between these can't be (2)")
    static void whatCantBeLiesBetweenTheFewestAndTheMost() {
        YearWords x = rich();
        due(x.length(0, 2), 0);
        due(x.length(2, 2), 3);
        due(tenTold().length(0, 2), 0);
        YearWords y = tenTold();
        y.turn(0, 2);
        due(y.length(0, 2), 110);
        // Above 120 words nothing is asked for: 108 alone and 120 are left of nine ECHOES.
        y.turn(0, 4);
        y.cut(0);
        due(y.length(0, 2), 11);
    }

    @Says(promise = 15, words = "the most (1)")
    static void anEmptyTaleIsSaidIn0Words() {
        YearWords x = rich();
        due(x.length(1, 0), 0);
        due(x.length(1, 1), 0);
        due(x.length(1, 2), 0);
    }

    @Says(promise = 15, words = "BEYOND.")
    static void lengthOfNoSuchTaleOrWhatIsBeyond() {
        refused(BEYOND, x -> x.length(-1, 0), x -> x.length(3, 0), x -> x.length(LOW, 0),
            x -> x.length(HIGH, 1), x -> x.length(0, -1), x -> x.length(0, 3), x -> x.length(0, LOW),
            x -> x.length(0, HIGH));
    }

    @Says(promise = 15, words = "NONE: it can't be said in 120 or fewer.")
    static void theLongestTaleCanStillBeSaidIn120() {
        // Ten PARTS of 12 words are the most that must be said: NONE is never due.
        for (int kind = 0; kind < 6; kind++) {
            YearWords x = tenTold();
            x.turn(0, kind);
            due(x.length(0, 1), 120);
            due(x.status(-1), 0);
        }
    }

    // ---- promise 16

    @Says(promise = 16, words = "BEST in n words (0 to 120): what -1 its VALUE",
        terms = {"Its VALUE: that of all together.", "BEST in n words: the SAYING with the greatest VALUE"})
    static void bestIsTheGreatestValue() {
        YearWords x = rich();
        // 4 words of the ECHO are worth 20, 6 are worth 15, 8 are worth 20 again.
        due(x.best(0, 9, -1), 30);
        due(x.best(0, 13, -1), 30);
        due(x.best(0, 12, -1), 28);
        due(x.best(2, 3, -1), 1);
        due(x.best(2, 7, -1), 4);
    }

    @Says(promise = 16, words = "BEST in n words (0 to 120)")
    static void bestIn0AndIn120Words() {
        YearWords x = tenTold();
        due(x.best(0, 120, -1), 10);
        due(x.best(0, 120, 9), 12);
        x.turn(0, 5);
        due(x.best(0, 120, -1), -120);
        due(x.best(0, 120, 0), 12);
        due(x.best(0, 0, -1), 0);
        due(x.best(0, 0, 0), 0);
        due(x.best(0, 0, 9), 0);
    }

    @Says(promise = 16, words = "i (0 to 9) the LENGTH of its i-th PART",
        terms = "of several the first by LENGTHS (of its first PART the least, then of the second, ..).")
    static void ofSeveralBestTheFirstByLengths() {
        YearWords x = new YearWords();
        x.part(1, 1, 4, 3);
        tell(x, 0, 0, 0);
        // All in 8 words are worth 24.
        due(x.best(0, 8, 0), 1);
        due(x.best(0, 8, 1), 3);
        due(x.best(0, 8, 2), 4);
        x.part(2, 4, 4, 0);
        tell(x, 1, 1, 1);
        due(x.best(1, 8, 0), 0);
        due(x.best(1, 8, 1), 4);
        due(x.best(1, 8, 2), 4);
    }

    @Says(promise = 16, words = "the LENGTH of its i-th PART")
    static void theLongestLengthCanBeBest() {
        YearWords x = echoes();
        due(x.best(0, 48, -1), 24);
        due(x.best(0, 48, 0), 24);
        due(x.best(0, 48, 1), 24);
        due(x.best(0, 36, 0), 12);
        due(x.best(0, 36, 1), 24);
    }

    @Says(promise = 16, words = "its VALUE")
    static void aBestValueCanBeBelow0() {
        YearWords x = withParts();
        tell(x, 5, 0);
        due(x.best(0, 9, -1), -5);
        due(x.best(0, 9, 0), 6);
        due(x.best(0, 4, -1), 0);
    }

    @Says(promise = 16, words = "BEYOND.")
    static void bestOutOfBoundsIsBeyond() {
        refused(BEYOND, x -> x.best(-1, 5, -1), x -> x.best(3, 5, -1), x -> x.best(LOW, 5, 0),
            x -> x.best(HIGH, 5, 0), x -> x.best(0, -1, -1), x -> x.best(0, 121, -1), x -> x.best(0, LOW, 0),
            x -> x.best(0, HIGH, 0), x -> x.best(0, 5, -2), x -> x.best(0, 5, 10), x -> x.best(0, 5, LOW),
            x -> x.best(0, 5, HIGH));
    }

    @Says(promise = 16, words = "NONE: it can't be said so")
    static void bestOfWhatCantBeSaidIsNone() {
        refused(NONE, x -> x.best(0, 3, -1), x -> x.best(0, 14, 0), x -> x.best(0, 0, -1), x -> x.best(0, 120, 1),
            x -> x.best(1, 1, -1), x -> x.best(2, 5, 0));
    }

    @Says(promise = 16, words = "or it has no i-th.")
    static void bestWithoutAnIthPartIsNone() {
        refused(NONE, x -> x.best(0, 9, 2), x -> x.best(0, 9, 9), x -> x.best(1, 0, 0));
        due(rich().best(0, 9, 1), 4);
    }

    @Says(promise = 16, words = "BEYOND. NONE")
    static void aWrongBestIsBeyondAheadOfNone() {
        refused(BEYOND, x -> x.best(0, 3, 10), x -> x.best(0, 3, -2), x -> x.best(1, 121, 0));
    }

    // ---- promise 17

    @Says(promise = 17, words = "The number of words (0 to 120) in which BEST of a TALE has the greatest VALUE")
    static void theRichestIs0To120Words() {
        YearWords both = rich();
        due(both.richest(0), 9);
        due(both.richest(1), 0);
        due(tenTold().richest(0), 120);
        YearWords x = tenTold();
        x.turn(0, 5);
        due(x.richest(0), 0);
        x.turn(0, 2);
        due(x.richest(0), 120);
    }

    @Says(promise = 17, words = "of several the least.")
    static void ofSeveralRichestTheLeast() {
        YearWords x = withParts();
        tell(x, 4);
        // 4 and 8 words of an ECHO are worth 20.
        due(x.richest(0), 4);
        x.set(4, 3, 0);
        due(x.richest(0), 2);
    }

    @Says(promise = 17, words = "BEYOND.")
    static void richestOfNoSuchTaleIsBeyond() {
        refused(BEYOND, x -> x.richest(-1), x -> x.richest(3), x -> x.richest(8), x -> x.richest(LOW),
            x -> x.richest(HIGH));
    }

    @Says(promise = 17, words = "NONE.")
    static void theLongestTaleHasARichestToo() {
        // As with length: NONE is never due.
        for (int kind = 0; kind < 6; kind++) {
            YearWords x = tenTold();
            x.turn(0, kind);
            due(x.richest(0), kind == 5 ? 0 : 120);
            due(x.status(-1), 0);
        }
    }

    // ---- promise 18

    @Says(promise = 18, words = "The PART that, put behind a TALE, lets it be said in n words")
    static void aPartFillsATaleThatStaysAsItIs() {
        YearWords x = rich();
        due(x.fills(2, 6), 0);
        due(x.fills(2, 15), 4);
        due(x.fills(1, 7), 3);
        due(x.size(2), 2);
        due(x.ways(2, 6), 0);
    }

    @Says(promise = 18, words = "in n words (0 to 120)")
    static void aPartFillsUpTo120Words() {
        YearWords x = tenTold();
        x.cut(0);
        due(x.fills(0, 120), 0);
        due(x.fills(0, 119), 1);
        due(x.fills(0, 109), 1);
        due(x.fills(0, 107), NONE);
        due(x.fills(0, 0), NONE);
    }

    @Says(promise = 18, words = "of several the least.")
    static void ofSeveralThatFillTheLeast() {
        YearWords x = new YearWords();
        x.part(0, 2, 2, 0);
        x.part(1, 1, 12, 9);
        x.part(0, 5, 5, 9);
        x.part(5, 12, 12, 9);
        x.tale();
        due(x.fills(0, 5), 1);
        due(x.fills(0, 2), 0);
        due(x.fills(0, 12), 1);
        x.set(1, 2, 4);
        due(x.fills(0, 5), 2);
        due(x.fills(0, 12), 3);
    }

    @Says(promise = 18, words = "BEYOND.")
    static void fillsOutOfBoundsIsBeyond() {
        refused(BEYOND, x -> x.fills(-1, 5), x -> x.fills(3, 5), x -> x.fills(LOW, 5),
            x -> x.fills(HIGH, 5), x -> x.fills(0, -1), x -> x.fills(0, 121), x -> x.fills(0, LOW),
            x -> x.fills(0, HIGH));
    }

    @Says(promise = 18, words = "FULL: it has 10.")
    static void whatHas10CantBeFilled() {
        refused(FULL, TaleEdges::tenTold, x -> x.fills(0, 119), x -> x.fills(0, 0));
    }

    @Says(promise = 18, words = "STATE: it can be said so already.")
    static void whatCanBeSaidIsNotFilled() {
        refused(STATE, x -> x.fills(0, 4), x -> x.fills(0, 13), x -> x.fills(1, 0), x -> x.fills(2, 3),
            x -> x.fills(2, 7));
    }

    @Says(promise = 18, words = "NONE.")
    static void whatNoPartFillsIsNone() {
        refused(NONE, x -> x.fills(0, 3), x -> x.fills(0, 22), x -> x.fills(0, 120), x -> x.fills(2, 2),
            x -> x.fills(1, 9));
        YearWords x = new YearWords();
        x.tale();
        due(x.fills(0, 1), NONE);
    }

    @Says(promise = 18, words = "NONE.")
    static void whatIsNotThereAnyMoreFillsNothing() {
        YearWords x = new YearWords();
        x.tale();
        x.image();
        x.part(0, 5, 5, 0);
        due(x.fills(0, 5), 0);
        x.undo();
        due(x.fills(0, 5), NONE);
        book(x, "word 5;x");
        due(x.fills(0, 5), NONE);
        for (int p = 0; p < 16; p++) {
            x.part(0, 1, 1, 0);
        }
        due(x.fills(0, 5), NONE);
        x.set(15, 2, 5);
        x.set(15, 1, 5);
        due(x.fills(0, 5), 15);
    }

    @Says(promise = 18, words = "NONE.")
    static void nothingIsFilledByLessThan0Words() {
        // A TALE of 60 words and one of 63: behind them something is always more, never 64 less.
        YearWords x = new YearWords();
        x.part(0, 12, 12, 0);
        x.part(1, 1, 12, 0);
        x.part(0, 9, 9, 0);
        tellTimes(x, 0, 5);
        tellTimes(x, 2, 7);
        for (int n = 0; n < 60; n++) {
            due(x.fills(0, n), NONE);
            due(x.fills(1, n), NONE);
        }
        due(x.fills(0, 61), 1);
        due(x.fills(1, 64), 1);
    }

    @Says(promise = 18, words = "lets it be said in n words")
    static void theLongestLengthFills() {
        YearWords x = echoes();
        due(x.fills(1, 24), 0);
        due(x.fills(0, 72), 0);
        due(x.fills(0, 73), NONE);
    }

    /** Two ECHOES of 12 or 24 words, worth 1 a word, in TALE 0; TALE 1 is empty. */
    private static YearWords echoes() {
        YearWords x = new YearWords();
        x.part(4, 12, 12, 1);
        tellTimes(x, 0, 2);
        x.tale();
        return x;
    }

    @Says(promise = 18, words = "BEYOND. FULL")
    static void aWrongFillIsBeyondAheadOfFull() {
        refused(BEYOND, TaleEdges::tenTold, x -> x.fills(0, 121), x -> x.fills(0, -1), x -> x.fills(1, 5));
    }

    @Says(promise = 18, words = "FULL: it has 10. STATE")
    static void aFillIsFullAheadOfState() {
        refused(FULL, TaleEdges::tenTold, x -> x.fills(0, 120));
    }
}
