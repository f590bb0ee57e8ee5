/** Boundary cases of promises 37 to 42: SHEETS, and THE COURT. */
final class SheetEdges extends Edge {
    private SheetEdges() {
    }

    // ---- promise 37

    @Says(promise = 37, words = "A sheet has n numbers, all 0, of 8, 16 or 64 bits",
        terms = "SHEETS 0 to 3 are rows of at most 40 numbers of 8, 16 or 64 bits")
    static void aSheetHas0To40Numbers() {
        YearWords x = new YearWords();
        int[] bits = {8, 16, 64, 8};
        for (int s = 0; s < 4; s++) {
            due(x.sheet(s, bits[s], 0), 0);
            due(x.write(s, 0, 1), BEYOND);
            due(x.sheet(s, bits[s], 40), 40);
            due(x.write(s, 0, 1), 0);
            due(x.write(s, 39, 1), 0);
            due(x.write(s, 40, 1), BEYOND);
        }
    }

    @Says(promise = 37, words = "all 0")
    static void aSheetMadeAnewIsAll0() {
        YearWords x = new YearWords();
        x.sheet(0, 64, 40);
        for (int i = 0; i < 40; i++) {
            x.write(0, i, -1);
        }
        x.sheet(0, 64, 1);
        x.sheet(0, 64, 40);
        for (int i = 0; i < 40; i++) {
            due(x.write(0, i, -1), 0);
        }
        x.sheet(0, 0, 0);
        x.sheet(0, 8, 40);
        due(x.write(0, 0, 1), 0);
        due(x.write(0, 39, 1), 0);
    }

    @Says(promise = 37, words = "bits 0: it is MISSING: n (0 if it is MISSING).", terms = "or MISSING (at first).")
    static void aSheetIsMissingAtFirstAndWith0Bits() {
        YearWords x = new YearWords();
        for (int s = 0; s < 4; s++) {
            due(x.write(s, 0, 1), MISSING);
            x.sheet(s, 8, 3);
            due(x.write(s, 0, 1), 0);
            due(x.sheet(s, 0, s == 0 ? 0 : 13 * s + 1), 0);
            due(x.write(s, 0, 1), MISSING);
        }
    }

    @Says(promise = 37, words = "BEYOND: no such sheet, other bits.")
    static void noSuchSheetOrOtherBitsAreBeyond() {
        refused(BEYOND, x -> x.sheet(-1, 8, 1), x -> x.sheet(4, 8, 1), x -> x.sheet(LOW, 0, 1),
            x -> x.sheet(HIGH, 8, 1));
        refused(BEYOND, x -> x.sheet(0, -1, 1), x -> x.sheet(0, 1, 1), x -> x.sheet(0, 7, 1),
            x -> x.sheet(0, 9, 1), x -> x.sheet(0, 32, 1), x -> x.sheet(0, 63, 1), x -> x.sheet(0, 65, 1),
            x -> x.sheet(0, -8, 1), x -> x.sheet(0, LOW, 1), x -> x.sheet(0, HIGH, 1));
    }

    @Says(promise = 37, words = "SIZE: n is below 0 (also with bits 0).")
    static void nBelow0IsSize() {
        refused(SIZE, x -> x.sheet(0, 8, -1), x -> x.sheet(0, 16, LOW), x -> x.sheet(3, 64, -1),
            x -> x.sheet(0, 0, -1), x -> x.sheet(3, 0, LOW));
    }

    @Says(promise = 37, words = "BEYOND: n is above 40 (also with bits 0).")
    static void nAbove40IsBeyond() {
        refused(BEYOND, x -> x.sheet(0, 8, 41), x -> x.sheet(0, 16, HIGH), x -> x.sheet(3, 64, 41),
            x -> x.sheet(0, 0, 41), x -> x.sheet(3, 0, HIGH));
    }

    @Says(promise = 37, words = "BEYOND: no such sheet, other bits. SIZE")
    static void aWrongSheetIsBeyondAheadOfSize() {
        refused(BEYOND, x -> x.sheet(4, 8, -1), x -> x.sheet(-1, 0, -1), x -> x.sheet(0, 32, -1));
    }

    // ---- promise 38

    @Says(promise = 38, words = "Number i of a sheet becomes v (its lowest bits): what it was.")
    static void onlyTheLowestBitsStay() {
        YearWords x = new YearWords();
        sheetOf(x, 0, 8, 127, 128, 255, 256, -1, -128, -129, 0x1234567890ABCD12L);
        long[] eight = {127, -128, -1, 0, -1, -128, 127, 0x12};
        sheetOf(x, 1, 16, 32767, 32768, 65535, 65536, -1, -32768, -32769, 0x1234567890AB7D12L);
        long[] sixteen = {32767, -32768, -1, 0, -1, -32768, 32767, 0x7D12};
        for (int i = 0; i < 8; i++) {
            due(x.write(0, i, 0), eight[i]);
            due(x.write(1, i, 0), sixteen[i]);
        }
    }

    @Says(promise = 38, words = "what it was")
    static void numbersOf64BitsStayWhole() {
        YearWords x = new YearWords();
        sheetOf(x, 0, 64, Long.MIN_VALUE, Long.MAX_VALUE, -1, 1L << 32);
        due(x.write(0, 0, 0), Long.MIN_VALUE);
        due(x.write(0, 1, 0), Long.MAX_VALUE);
        due(x.write(0, 2, 0), -1);
        due(x.write(0, 3, 0), 1L << 32);
    }

    @Says(promise = 38, words = "what it was")
    static void aNumberThatLooksLikeAFindingIsNone() {
        YearWords x = new YearWords();
        x.sheet(0, 64, 1);
        for (long finding = BEYOND; finding >= SIZE; finding--) {
            x.write(0, 0, finding);
            due(x.write(0, 0, 0), finding);
        }
        due(x.status(-1), 0);
    }

    @Says(promise = 38, words = "BEYOND: no such sheet.")
    static void writeOfNoSuchSheetIsBeyond() {
        refused(BEYOND, x -> x.write(-1, 0, 1), x -> x.write(4, 0, 1), x -> x.write(LOW, 0, 1),
            x -> x.write(HIGH, 0, 1));
    }

    @Says(promise = 38, words = "MISSING.")
    static void writeOfAMissingSheetIsMissing() {
        refused(MISSING, x -> x.write(3, 0, 1));
    }

    @Says(promise = 38, words = "BEYOND: no such number.")
    static void writeOfNoSuchNumberIsBeyond() {
        refused(BEYOND, x -> x.write(0, -1, 1), x -> x.write(0, 3, 1), x -> x.write(1, 2, 1),
            x -> x.write(0, 40, 1), x -> x.write(0, LOW, 1), x -> x.write(0, HIGH, 1));
    }

    @Says(promise = 38, words = "MISSING. BEYOND")
    static void aWrongWriteOfAMissingSheetIsMissingAheadOfBeyond() {
        refused(MISSING, x -> x.write(3, -1, 1), x -> x.write(3, 40, 1), x -> x.write(3, HIGH, 1));
    }

    // ---- promise 39

    @Says(promise = 39, words = "n numbers of a sheet from one on come to another one from one on")
    static void numbersComeFromOneSheetToAnother() {
        YearWords x = new YearWords();
        sheetOf(x, 0, 16, 10, 11, 12, 13, 14);
        sheetOf(x, 3, 16, 1, 2, 3);
        due(x.copy(0, 3, 3, 1, 2), 2);
        numbers(x, 3, 1, 13, 14);
        numbers(x, 0, 10, 11, 12, 13, 14);
        due(x.copy(0, 0, 3, 0, 3), 3);
        numbers(x, 3, 10, 11, 12);
    }

    @Says(promise = 39, words = "(as they all were): n.")
    static void numbersComeAsTheyAllWere() {
        YearWords x = new YearWords();
        sheetOf(x, 0, 64, 1, 2, 3, 4, 5);
        due(x.copy(0, 0, 0, 1, 4), 4);
        numbers(x, 0, 1, 1, 2, 3, 4);
        due(x.copy(0, 1, 0, 0, 4), 4);
        numbers(x, 0, 1, 2, 3, 4, 4);
        due(x.copy(0, 0, 0, 0, 5), 5);
        numbers(x, 0, 1, 2, 3, 4, 4);
    }

    @Says(promise = 39, words = "n numbers of a sheet")
    static void noNumbersCanComeFromTheVeryEnd() {
        YearWords x = new YearWords();
        sheetOf(x, 0, 8, 1, 2);
        x.sheet(1, 8, 0);
        due(x.copy(0, 2, 1, 0, 0), 0);
        due(x.copy(1, 0, 0, 2, 0), 0);
        due(x.copy(0, 0, 0, 0, 0), 0);
        numbers(x, 0, 1, 2);
        due(x.copy(0, 3, 1, 0, 0), BEYOND);
        due(x.copy(1, 0, 0, 3, 0), BEYOND);
        due(x.copy(1, 1, 0, 0, 0), BEYOND);
    }

    @Says(promise = 39, words = "n numbers of a sheet")
    static void allFortyNumbersCanCome() {
        YearWords x = new YearWords();
        x.sheet(0, 8, 40);
        x.sheet(1, 8, 40);
        x.write(0, 0, 5);
        x.write(0, 39, 7);
        due(x.copy(0, 0, 1, 0, 40), 40);
        due(x.write(1, 0, 0), 5);
        due(x.write(1, 39, 0), 7);
        due(x.copy(0, 0, 1, 0, 41), BEYOND);
    }

    @Says(promise = 39, words = "BEYOND: no such sheet (either).")
    static void copyOfNoSuchSheetIsBeyond() {
        refused(BEYOND, x -> x.copy(-1, 0, 0, 0, 1), x -> x.copy(4, 0, 0, 0, 1), x -> x.copy(0, 0, -1, 0, 1),
            x -> x.copy(0, 0, 4, 0, 1), x -> x.copy(LOW, 0, 0, 0, 1), x -> x.copy(0, 0, HIGH, 0, 1));
    }

    @Says(promise = 39, words = "MISSING: one is.")
    static void copyOfAMissingSheetIsMissing() {
        refused(MISSING, x -> x.copy(3, 0, 0, 0, 1), x -> x.copy(0, 0, 3, 0, 1), x -> x.copy(3, 0, 3, 0, 0));
    }

    @Says(promise = 39, words = "KIND: they are not of as many bits.")
    static void copyAmongOtherBitsIsKind() {
        refused(KIND, x -> x.copy(0, 0, 1, 0, 1), x -> x.copy(1, 0, 0, 0, 1), x -> x.copy(1, 0, 2, 0, 1),
            x -> x.copy(2, 0, 0, 0, 0));
    }

    @Says(promise = 39, words = "BEYOND: one has not so many")
    static void copyOfMoreThanOneHasIsBeyond() {
        refused(BEYOND, SheetEdges::fiveAndThree, x -> x.copy(0, 0, 1, 0, 4), x -> x.copy(1, 0, 0, 0, 4),
            x -> x.copy(0, 4, 1, 0, 2), x -> x.copy(0, 0, 1, 2, 2), x -> x.copy(0, 5, 1, 0, 1), x -> x.copy(0, 0, 1, 3, 1),
            x -> x.copy(0, 6, 1, 0, 0), x -> x.copy(0, 0, 1, 4, 0), x -> x.copy(0, 0, 0, 1, 5));
        // The sum of a place and of how many goes round.
        refused(BEYOND, SheetEdges::fiveAndThree, x -> x.copy(0, 1, 1, 0, HIGH),
            x -> x.copy(0, HIGH, 1, 0, 1), x -> x.copy(0, 0, 1, HIGH, 1),
            x -> x.copy(0, HIGH, 1, HIGH, HIGH));
    }

    @Says(promise = 39, words = "or from, to or n is below 0.")
    static void copyFromBelow0IsBeyond() {
        refused(BEYOND, SheetEdges::fiveAndThree, x -> x.copy(0, -1, 1, 0, 1), x -> x.copy(0, 0, 1, -1, 1),
            x -> x.copy(0, 0, 1, 0, -1), x -> x.copy(0, -1, 1, 0, 0), x -> x.copy(0, 0, 1, -1, 0), x -> x.copy(0, 3, 1, 3, -1),
            x -> x.copy(0, LOW, 1, 0, 1), x -> x.copy(0, 0, 1, LOW, 1), x -> x.copy(0, 0, 1, 0, LOW),
            x -> x.copy(0, LOW, 1, LOW, LOW));
    }

    @Says(promise = 39, words = {"BEYOND: no such sheet (either). MISSING: one is. KIND", "bits. BEYOND"})
    static void aWrongCopyIsToldInTheOrderAsked() {
        refused(BEYOND, x -> x.copy(3, -1, 4, 0, 1), x -> x.copy(4, 0, 3, 0, 1), x -> x.copy(-1, 0, 0, -1, 99));
        refused(MISSING, x -> x.copy(3, -1, 0, 0, 1), x -> x.copy(0, 0, 3, -1, 1), x -> x.copy(0, 0, 3, 0, 99));
        refused(KIND, x -> x.copy(0, -1, 1, 0, 1), x -> x.copy(0, 0, 1, 0, 99), x -> x.copy(0, 0, 2, -1, -1));
    }

    /** Two sheets of as many bits, of five numbers and of three. */
    private static YearWords fiveAndThree() {
        YearWords x = new YearWords();
        sheetOf(x, 0, 8, 10, 11, 12, 13, 14);
        sheetOf(x, 1, 8, 1, 2, 3);
        return x;
    }

    /** The numbers of a sheet are these; they stay. */
    private static void numbers(YearWords x, int s, long... want) {
        for (int i = 0; i < want.length; i++) {
            due(x.write(s, i, want[i]), want[i]);
        }
    }

    // ---- promise 40

    @Says(promise = 40, words = "Numbers of a sheet are AGES of HEARERS 0, 1, ..")
    static void numbersBecomeAges() {
        YearWords x = rich();
        sheetOf(x, 1, 16, 99, 0, 7);
        due(x.lays(1), 3);
        int[] want = {99, 0, 7, 99};
        for (int h = 0; h < 4; h++) {
            due(x.ageOf(h), want[h]);
        }
    }

    @Says(promise = 40, words = "(those that aren't 0 to 99")
    static void numbersThatAreNoAgesAreLeftOut() {
        YearWords x = rich();
        sheetOf(x, 2, 64, -1, 100, (1L << 32) + 5, 50);
        due(x.lays(2), 1);
        int[] want = {9, 4, 0, 50};
        for (int h = 0; h < 4; h++) {
            due(x.ageOf(h), want[h]);
        }
        sheetOf(x, 2, 64, Long.MIN_VALUE, Long.MAX_VALUE, Long.MIN_VALUE + 5, -(1L << 32));
        due(x.lays(2), 0);
        due(x.ageOf(0), 9);
        // 200 in 8 bits is -56, and 256 is 0.
        sheetOf(x, 0, 8, 200, 256);
        due(x.lays(0), 1);
        due(x.ageOf(0), 9);
        due(x.ageOf(1), 0);
    }

    @Says(promise = 40, words = "or stand for none, are left out): how many came.")
    static void numbersThatStandForNoneAreLeftOut() {
        YearWords x = rich();
        x.sheet(0, 8, 40);
        due(x.lays(0), 4);
        due(x.ageOf(0), 0);
        due(x.ageOf(3), 0);
        due(x.count(2), 4);
        YearWords y = new YearWords();
        y.sheet(0, 8, 40);
        due(y.lays(0), 0);
        YearWords z = rich();
        z.sheet(0, 8, 0);
        due(z.lays(0), 0);
        due(z.ageOf(0), 9);
        due(z.status(-1), 0);
    }

    @Says(promise = 40, words = "BEYOND: no such sheet.")
    static void laysOfNoSuchSheetIsBeyond() {
        refused(BEYOND, x -> x.lays(-1), x -> x.lays(4), x -> x.lays(LOW), x -> x.lays(HIGH));
    }

    @Says(promise = 40, words = "MISSING.")
    static void laysOfAMissingSheetIsMissing() {
        refused(MISSING, x -> x.lays(3));
    }

    // ---- promise 41

    @Says(promise = 41, words = "The SAYING: LENGTHS of BEST of a TALE in n words (0 to 120) come to a sheet")
    static void lengthsOfBestComeToASheet() {
        YearWords x = rich();
        due(x.say(0, 0, 9), 2);
        numbers(x, 0, 5, 4, 7);
        due(x.say(2, 2, 3), 2);
        numbers(x, 2, 3, 0);
        due(x.say(0, 1, 0), 0);
        numbers(x, 0, 5, 4, 7);
    }

    @Says(promise = 41, words = "in n words (0 to 120)")
    static void sayIn0AndIn120Words() {
        YearWords x = new YearWords();
        x.part(5, 12, 12, 0);
        tellTimes(x, 0, 10);
        x.sheet(0, 8, 40);
        due(x.say(0, 0, 120), 10);
        numbers(x, 0, 12, 12, 12, 12, 12, 12, 12, 12, 12, 12, 0);
        due(x.say(0, 0, 0), 10);
        numbers(x, 0, 0, 0, 0, 0, 0, 0, 0, 0, 0, 0, 0);
    }

    @Says(promise = 41, words = "as far as it has numbers: how many.")
    static void onlyAsManyComeAsTheSheetHasNumbers() {
        YearWords x = rich();
        x.sheet(0, 8, 1);
        due(x.say(0, 0, 9), 1);
        numbers(x, 0, 5);
        x.sheet(0, 8, 0);
        due(x.say(0, 0, 9), 0);
        due(x.status(-1), 0);
    }

    @Says(promise = 41, words = "BEYOND: no such sheet.")
    static void sayOnNoSuchSheetIsBeyond() {
        refused(BEYOND, x -> x.say(-1, 0, 9), x -> x.say(4, 0, 9), x -> x.say(LOW, 0, 9),
            x -> x.say(HIGH, 0, 9));
    }

    @Says(promise = 41, words = "MISSING.")
    static void sayOnAMissingSheetIsMissing() {
        refused(MISSING, x -> x.say(3, 0, 9));
    }

    @Says(promise = 41, words = "BEYOND: tale, n.")
    static void sayOfNoSuchTaleOrNIsBeyond() {
        refused(BEYOND, x -> x.say(0, -1, 9), x -> x.say(0, 3, 9), x -> x.say(0, LOW, 9),
            x -> x.say(0, HIGH, 9), x -> x.say(0, 0, -1), x -> x.say(0, 0, 121), x -> x.say(0, 0, LOW),
            x -> x.say(0, 0, HIGH));
    }

    @Says(promise = 41, words = "NONE: it can't be said so.")
    static void sayOfWhatCantBeSaidIsNone() {
        refused(NONE, x -> x.say(0, 0, 3), x -> x.say(0, 0, 14), x -> x.say(0, 1, 1), x -> x.say(0, 0, 120),
            x -> x.say(2, 2, 0));
    }

    @Says(promise = 41, words = {"BEYOND: no such sheet. MISSING. BEYOND", "n. NONE"})
    static void aWrongSayIsToldInTheOrderAsked() {
        refused(BEYOND, x -> x.say(4, 9, 3), x -> x.say(0, 9, 3), x -> x.say(0, 0, 121));
        refused(MISSING, x -> x.say(3, 9, 3), x -> x.say(3, 0, 121), x -> x.say(3, 0, 3));
    }

    // ---- promise 42

    @Says(promise = 42, words = {"THE COURT: numbers of a sheet are LENGTHS with which a TALE was said to a HEARER",
        "0 if it was a SAYING of it in AGE words"})
    static void aSayingInAgeWordsIsJudged0() {
        due(judged(9, 5, 4), 0);
        due(judged(13, 5, 8), 0);
        due(judged(4, 2, 2), 0);
        // Not only BEST.
        due(judged(9, 3, 6), 0);
    }

    @Says(promise = 42, words = "else 1 and the place of the first that isn't a LENGTH of its PART")
    static void theFirstThatIsNoLengthIsTold() {
        due(judged(9, 1, 8), 1);
        due(judged(9, 6, 3), 1);
        due(judged(9, 1, 5), 1);
        due(judged(10, 5, 5), 2);
        due(judged(5, 5, 0), 2);
        due(judged(4, 5, -1), 2);
        // 37 is 5 and -27 is 5, if only their lowest five bits are looked at; so is the third in 32.
        due(judged(41, 37, 4), 1);
        due(judged(9, -27, 4), 1);
        due(judged(9, (1L << 32) + 5, 4), 1);
        due(judged(9, 5, Long.MIN_VALUE + 4), 2);
        due(judged(9, Long.MAX_VALUE, 4), 1);
    }

    @Says(promise = 42, words = "(or stands for none)")
    static void oneThatStandsForNoPartIsTold() {
        due(judged(9, 5, 4, 0), 3);
        due(judged(9, 5, 4, 0, 0, 0), 3);
        due(judged(9, 5, 1, 0), 2);
        YearWords x = rich();
        due(x.read(0, 1, 2), 1);
        YearWords y = new YearWords();
        y.part(5, 12, 12, 0);
        tellTimes(y, 0, 10);
        y.hearer(0);
        y.sheet(0, 8, 40);
        due(y.read(0, 0, 0), 11);
        y.sheet(0, 8, 10);
        due(y.read(0, 0, 0), 0);
    }

    @Says(promise = 42, words = "1 and how many, if some lack")
    static void ifSomeLackTheFirstThatLacksIsTold() {
        due(judged(5, 5), 2);
        due(judged(9, 5), 2);
        due(judged(0), 1);
        due(judged(9, 1), 1);
    }

    @Says(promise = 42, words = "41 if all are, but they aren't AGE words.")
    static void aSayingInOtherWordsIsJudged41() {
        due(judged(8, 5, 4), 41);
        due(judged(10, 5, 4), 41);
        due(judged(0, 2, 2), 41);
        due(judged(99, 5, 8), 41);
    }

    @Says(promise = 42, words = "0 if it was a SAYING of it in AGE words; else")
    static void anEmptyTaleIsJudgedToo() {
        YearWords x = rich();
        x.sheet(0, 8, 0);
        due(x.read(0, 1, 2), 0);
        due(x.read(0, 1, 0), 41);
        due(x.status(-1), 0);
    }

    @Says(promise = 42, words = "BEYOND: no such sheet.")
    static void readOfNoSuchSheetIsBeyond() {
        refused(BEYOND, x -> x.read(-1, 0, 0), x -> x.read(4, 0, 0), x -> x.read(LOW, 0, 0),
            x -> x.read(HIGH, 0, 0));
    }

    @Says(promise = 42, words = "MISSING.")
    static void readOfAMissingSheetIsMissing() {
        refused(MISSING, x -> x.read(3, 0, 0));
    }

    @Says(promise = 42, words = "BEYOND: tale, hearer.")
    static void readOfNoSuchTaleOrHearerIsBeyond() {
        refused(BEYOND, x -> x.read(0, -1, 0), x -> x.read(0, 3, 0), x -> x.read(0, LOW, 0),
            x -> x.read(0, HIGH, 0), x -> x.read(0, 0, -1), x -> x.read(0, 0, 4), x -> x.read(0, 0, LOW),
            x -> x.read(0, 0, HIGH));
    }

    @Says(promise = 42, words = "BEYOND: no such sheet. MISSING. BEYOND")
    static void aWrongReadIsToldInTheOrderAsked() {
        refused(BEYOND, x -> x.read(4, 9, 9));
        refused(MISSING, x -> x.read(3, 9, 0), x -> x.read(3, 0, 9), x -> x.read(3, -1, -1));
    }

    /** NAME (2 to 5) and ECHO (2, 3, 4, 6, 8), said with these LENGTHS to one of that AGE. */
    private static int judged(int age, long... lengths) {
        YearWords x = rich();
        x.age(0, age);
        sheetOf(x, 0, 64, lengths);
        return x.read(0, 0, 0);
    }
}
