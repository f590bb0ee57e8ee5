/** Boundary cases of promises 34 to 36: THE TAPE and THE TEXT of a BOOK. */
final class TextEdges extends Edge {
    private static final String SIXTEEN = "pad1;pad1;pad1;pad1;pad1;pad1;pad1;pad1;pad1;pad1;pad1;pad1;pad1;pad1;pad1;pad1";
    private static final String EIGHT = "tale;tale;tale;tale;tale;tale;tale;tale";
    private static final String TEN = "hearer0;hearer1;hearer2;hearer3;hearer4;hearer5;hearer6;hearer7;hearer8;hearer9";

    private TextEdges() {
    }

    // ---- promise 34

    @Says(promise = 34, words = "THE TAPE gets the n lowest bytes of a number behind it")
    static void onlyTheLowestBytesCome() {
        YearWords x = new YearWords();
        due(x.feed(0x7F7F7F74, 1), 1);
        due(x.feed(0x7F7F616C, 2), 3);
        due(x.feed(-0x100 | 'e', 1), 4);
        due(x.book(), 1);
        due(x.feed(0x7F74616C, 3), 3);
        due(x.feed(LOW | 'e', 1), 4);
        due(x.book(), 1);
    }

    @Says(promise = 34, words = "the highest of these first")
    static void theHighestByteComesFirst() {
        YearWords x = new YearWords();
        due(x.feed('t' << 24 | 'a' << 16 | 'l' << 8 | 'e', 4), 4);
        due(x.book(), 1);
        due(x.feed('e' << 24 | 'l' << 16 | 'a' << 8 | 't', 4), 4);
        due(x.book(), -1);
        // A highest byte above 127 is a byte like others.
        due(x.feed(0xFF616C65, 4), 4);
        due(x.book(), -1);
        due(x.count(1), 1);
    }

    @Says(promise = 34, words = "(n 1 to 4): how many it has.")
    static void oneToFourBytesCome() {
        YearWords x = new YearWords();
        due(x.feed(0, 1), 1);
        due(x.feed(0, 2), 3);
        due(x.feed(0, 3), 6);
        due(x.feed(0, 4), 10);
        due(x.count(3), 10);
    }

    @Says(promise = 34, words = "BEYOND: n.")
    static void feedOfAnotherNumberOfBytesIsBeyond() {
        refused(BEYOND, x -> x.feed(65, 0), x -> x.feed(65, 5), x -> x.feed(65, -1), x -> x.feed(65, LOW),
            x -> x.feed(65, HIGH));
    }

    @Says(promise = 34, words = "FULL.", terms = "from THE TAPE (bytes, at most 120).")
    static void aTapeHas120BytesAtMost() {
        YearWords x = tapeOf(116);
        due(x.feed(0, 4), 120);
        refused(FULL, () -> tapeOf(120), y -> y.feed(65, 1), y -> y.feed(65, 4));
        refused(FULL, () -> tapeOf(117), y -> y.feed(65, 4));
        refused(FULL, () -> tapeOf(119), y -> y.feed(65, 2));
        due(tapeOf(119).feed(65, 1), 120);
    }

    @Says(promise = 34, words = "BEYOND: n. FULL.")
    static void aWrongFeedOfAFullTapeIsBeyondAheadOfFull() {
        refused(BEYOND, () -> tapeOf(120), x -> x.feed(65, 0), x -> x.feed(65, 5), x -> x.feed(65, HIGH));
    }

    private static YearWords tapeOf(int bytes) {
        YearWords x = new YearWords();
        for (int i = 0; i < bytes; i++) {
            x.feed(' ', 1);
        }
        return x;
    }

    // ---- promise 35

    @Says(promise = 35, words = "THE TAPE is empty: how many it had.")
    static void aFullAndAnEmptyTapeAreWiped() {
        YearWords x = tapeOf(120);
        due(x.wipe(), 120);
        due(x.count(3), 0);
        due(x.wipe(), 0);
        due(x.feed(65, 1), 1);
        due(x.status(-1), 0);
    }

    @Says(promise = 35, words = "THE TAPE is empty")
    static void whatWasWipedIsNotRead() {
        YearWords x = new YearWords();
        put(x, "tale;tale");
        x.wipe();
        due(book(x, "tale"), 1);
        due(x.count(1), 1);
    }

    // ---- promise 36: what can stand

    @Says(promise = 36, words = "THE TAPE is THE TEXT of a BOOK, whose ITEMS come to what there is, and empty then: how many ITEMS.",
        terms = {"THE TEXT of a BOOK", "TEXT: ITEM { ; ITEM }."})
    static void itemsComeBehindWhatThereIs() {
        YearWords x = withParts();
        tell(x, 1, 4);
        x.hearer(9);
        due(book(x, "tale"), 1);
        due(book(x, "word 2;tale of 6 0;hearer 5;tale"), 4);
        due(x.count(0), 7);
        due(x.count(1), 4);
        due(x.count(2), 2);
        due(x.count(3), 0);
        due(x.size(0), 2);
        due(x.size(1), 0);
        due(x.ith(2, 0), 6);
        due(x.ith(2, 1), 0);
        due(x.size(3), 0);
        due(x.ageOf(0), 9);
        due(x.ageOf(1), 5);
        due(x.book(), -1);
        due(x.status(-1), 0);
    }

    @Says(promise = 36, words = "THE TEXT of a BOOK", terms = "THE TEXT of a BOOK, from THE TAPE (bytes, at most 120)")
    static void aTextOf120BytesIsRead() {
        YearWords x = new YearWords();
        String blanks = " ".repeat(110);
        due(book(x, blanks + "hearer  99"), 1);
        due(x.ageOf(0), 99);
        due(book(x, "hearer 8" + " ".repeat(112)), 1);
        due(x.ageOf(1), 8);
    }

    @Says(promise = 36, words = "THE TEXT of a BOOK",
        terms = "TOKENS, each as long as can be: WORDS (letters a to z), NUMBERS (digits, 999 at most), SIGN ;")
    static void tokensAreAsLongAsCanBe() {
        YearWords x = new YearWords();
        due(book(x, "name2to5worth3;tale of0 0;hearer12"), 3);
        due(x.partOf(0, 1), 2);
        due(x.partOf(0, 2), 5);
        due(x.partOf(0, 3), 3);
        due(x.size(0), 2);
        due(x.ageOf(0), 12);
        fault("taleof 0", 0);
        fault("word 1 2", 7);
        fault("word12to", 8);
        fault("hearer 1 2", 9);
    }

    @Says(promise = 36, words = "THE TEXT of a BOOK", terms = "blanks may stand between.")
    static void blanksMayStandBetweenAndNotWithin() {
        YearWords x = new YearWords();
        due(book(x, "   tale   ;   tale   "), 2);
        due(book(x, "tale;tale"), 2);
        due(book(x, "word  7  to  9  worth  4"), 1);
        due(x.partOf(0, 2), 9);
        fault("ta le", 0);
        fault("tale\t", 4);
        fault("tale\n;tale", 4);
    }

    @Says(promise = 36, words = "THE TEXT of a BOOK",
        terms = {"ITEM: the name of a KIND (word name link title echo pad), a NUMBER (LEAST)", "a new PART;"})
    static void eachKindHasItsName() {
        YearWords x = new YearWords();
        due(book(x, "word 1;name 2;link 3;title 4;echo 11;pad 12"), 6);
        int[] least = {1, 2, 3, 4, 11, 12};
        for (int kind = 0; kind < 6; kind++) {
            due(x.partOf(kind, 0), kind);
            due(x.partOf(kind, 1), least[kind]);
        }
    }

    @Says(promise = 36, words = "THE TEXT of a BOOK", terms = "perhaps to and a NUMBER (MOST; as LEAST without)")
    static void mostIsAsLeastWithoutTo() {
        YearWords x = new YearWords();
        due(book(x, "name 4;name 4 to 4;name 1 to 12;pad 4 worth 2"), 4);
        int[] most = {4, 4, 12, 4};
        for (int p = 0; p < 4; p++) {
            due(x.partOf(p, 2), most[p]);
        }
    }

    @Says(promise = 36, words = "THE TEXT of a BOOK", terms = "perhaps worth and a NUMBER (0 to 9; 1 without)")
    static void worthIs1Without() {
        YearWords x = new YearWords();
        due(book(x, "name 4;name 4 worth 0;name 4 to 5 worth 9;name 4 to 5"), 4);
        int[] worth = {1, 0, 9, 1};
        for (int p = 0; p < 4; p++) {
            due(x.partOf(p, 3), worth[p]);
        }
    }

    @Says(promise = 36, words = "THE TEXT of a BOOK",
        terms = "tale, perhaps of and one or more NUMBERS (PARTS there by then, 10 at most): a new TALE of these")
    static void aTaleHasOneToTenPartsThereByThen() {
        YearWords x = withParts();
        due(book(x, "tale;tale of 5;tale of 0 1 2 3 4 5 4 3 2 1;word 2;tale of 6 6"), 5);
        due(x.size(0), 0);
        due(x.size(1), 1);
        due(x.ith(1, 0), 5);
        due(x.size(2), 10);
        due(x.ith(2, 0), 0);
        due(x.ith(2, 9), 1);
        due(x.size(3), 2);
        due(x.ith(3, 1), 6);
    }

    @Says(promise = 36, words = "THE TEXT of a BOOK", terms = "hearer and a NUMBER (0 to 99): a new HEARER.")
    static void aHearerIs0To99() {
        YearWords x = new YearWords();
        due(book(x, "hearer 0;hearer 99"), 2);
        due(x.ageOf(0), 0);
        due(x.ageOf(1), 99);
        fault("hearer 100", 7);
    }

    @Says(promise = 36, words = "THE TEXT of a BOOK", terms = "NUMBERS (digits, 999 at most)")
    static void zerosMayStandAheadOfANumber() {
        YearWords x = new YearWords();
        due(book(x, "word 0012 to 000000000012 worth 09;tale of 0000;hearer 00099"), 3);
        due(x.partOf(0, 1), 12);
        due(x.partOf(0, 3), 9);
        due(x.ith(0, 0), 0);
        due(x.ageOf(0), 99);
    }

    // ---- promise 36: what can't

    @Says(promise = 36, words = "With a FAULT: -1 less its place (nothing changes but that THE TAPE is empty; no finding).")
    static void aFaultChangesNothingAndIsNoFinding() {
        YearWords x = rich();
        x.wipe();
        due(book(x, "word 9;tale of 6 6;hearer 44;tale of 1 2 3;name 2 to 1"), -54);
        due(x.count(0), 6);
        due(x.count(1), 3);
        due(x.count(2), 4);
        due(x.count(3), 0);
        due(x.count(4), 1);
        due(x.size(0), 2);
        due(x.size(1), 0);
        due(x.size(2), 2);
        due(x.ageOf(3), 99);
        due(x.status(-1), 0);
        // Nor did it change what was kept.
        due(x.undo(), 6);
        due(x.ageOf(3), 98);
        due(x.part(3, 5, 6, 7), 6);
        due(x.partOf(6, 0), 3);
        due(x.partOf(6, 1), 5);
        due(x.hearer(1), 4);
        due(x.ageOf(4), 1);
    }

    @Says(promise = 36, words = "no finding", terms = "FAULT: the place (from 0)")
    static void aPlaceIsToldFrom0To120() {
        fault("x", 0);
        fault("tale;".repeat(7) + "tale;" + " ".repeat(79) + "x", 119);
        fault(" ".repeat(120), 120);
    }

    @Says(promise = 36, words = "With a FAULT",
        terms = "of the first byte of the first TOKEN that can't stand there")
    static void theFirstTokenThatCantStandIsTold() {
        fault("tale tale tale", 5);
        fault("tale;of 0;x", 5);
        fault("to 3", 0);
        fault("worth 3", 0);
        fault("5", 0);
        fault(";", 0);
        fault("tale;;tale", 5);
        fault("word;", 4);
        fault("word to 3", 5);
        fault("word 3 3", 7);
        fault("word 3 worth to", 13);
        fault("word 3 worth 2 to 5", 15);
        fault("word 3 to 4 to 5", 12);
        fault("word 3 worth 2 worth 5", 15);
        fault("word 3 of 4", 7);
        fault("word 3 tale", 7);
        fault("hearer;", 6);
        fault("hearer of 3", 7);
        fault("hearer 3 to 4", 9);
        fault("tale of;", 7);
        fault("tale of of", 8);
        fault("tale 0", 5);
        fault("tale worth 1", 5);
    }

    @Says(promise = 36, words = "With a FAULT", terms = "(a NUMBER that may not be")
    static void aNumberThatMayNotBeIsAFault() {
        fault("word 0", 5);
        fault("word 13", 5);
        fault("word 3 to 2", 10);
        fault("word 3 to 13", 10);
        fault("word 3 to 0", 10);
        fault("word 3 worth 10", 13);
        fault("word 3;tale of 1", 15);
        fault("word 3;tale of 0 1", 17);
        fault("tale of 0;word 3", 8);
        fault("hearer 999", 7);
    }

    @Says(promise = 36, words = "With a FAULT", terms = "(digits, 999 at most)")
    static void aNumberAbove999IsAFaultHoweverFar() {
        // The last of each would be one that may be, if it went round.
        fault("word 1000", 5);
        fault("word 1001", 5);
        fault("word 4294967297", 5);
        fault("word 18446744073709551617", 5);
        fault("word 3 worth 4294967296", 13);
        fault("hearer 4294967296", 7);
        fault("word 1;tale of 4294967296", 15);
        fault("hearer 1" + "0".repeat(100), 7);
    }

    @Says(promise = 36, words = "With a FAULT", terms = "one or more NUMBERS (PARTS there by then, 10 at most)")
    static void the11thPartOfATaleIsAFault() {
        fault("word 3;tale of 0 0 0 0 0 0 0 0 0 0 0", 35);
        fault("word 3;tale of 0 0 0 0 0 0 0 0 0 0 x", 35);
        fault("tale of", 7);
        fault("tale of ", 8);
    }

    @Says(promise = 36, words = "With a FAULT", terms = "another WORD")
    static void anotherWordIsAFault() {
        fault("tales", 0);
        fault("tal", 0);
        fault("words 3", 0);
        fault("wore 3", 0);
        fault("heare 3", 0);
        fault("word 3 too 4", 7);
        fault("word 3 t 4", 7);
        fault("word 3 worthy 4", 7);
        fault("tale off 0", 5);
        fault("talez", 0);
        fault("xale", 0);
        fault("aord 3", 0);
        fault("bearer 3", 0);
        fault("word 3 go 4", 7);
        fault("word 3 north 4", 7);
        fault("tale if 0", 5);
        fault("tale a", 5);
        fault("tale z", 5);
    }

    @Says(promise = 36, words = "With a FAULT", terms = "a byte that begins no TOKEN")
    static void aByteThatBeginsNoTokenIsAFault() {
        for (int b = 0; b < 256; b++) {
            boolean canGoOn = b >= 'a' && b <= 'z' || b == ' ' || b == ';';
            if (!canGoOn) {
                fault("tale" + (char) b, 4);
                fault("hearer 5;" + (char) b, 9);
            }
        }
        fault("Tale", 0);
        fault("tale.tale", 4);
        fault("word 3 to -4", 10);
    }

    @Says(promise = 36, words = "With a FAULT", terms = "the name of a KIND for a 17th PART")
    static void the17thPartIsAFaultAtItsName() {
        YearWords x = new YearWords();
        due(book(x, SIXTEEN), 16);
        due(book(x, "tale; pad 99"), -7);
        due(book(x, "word"), -1);
        due(x.count(0), 16);
        due(book(new YearWords(), SIXTEEN + ";pad1"), -81);
        YearWords y = withParts();
        due(book(y, "pad1;pad1;pad1;pad1;pad1;pad1;pad1;pad1;pad1;pad1;pad1"), -51);
        due(y.count(0), 6);
        due(book(y, "pad1;pad1;pad1;pad1;pad1;pad1;pad1;pad1;pad1;pad1"), 10);
    }

    @Says(promise = 36, words = "With a FAULT", terms = "tale for a 9th")
    static void the9thTaleIsAFaultAtItsName() {
        YearWords x = new YearWords();
        due(book(x, EIGHT), 8);
        due(book(x, "word 3;tale of 99"), -8);
        due(x.count(1), 8);
        due(x.count(0), 0);
        due(book(new YearWords(), EIGHT + ";tale"), -41);
    }

    @Says(promise = 36, words = "With a FAULT", terms = "hearer for an 11th: its own)")
    static void the11thHearerIsAFaultAtItsName() {
        YearWords x = new YearWords();
        due(book(x, TEN), 10);
        due(book(x, "word 3;hearer 100"), -8);
        due(book(x, "hearer"), -1);
        due(x.count(2), 10);
        due(book(new YearWords(), TEN + ";hearer5"), -81);
    }

    @Says(promise = 36, words = "With a FAULT", terms = "or how many bytes there are if it ends too early.")
    static void aTextThatEndsTooEarlyIsAFaultAtItsEnd() {
        fault("", 0);
        fault(" ", 1);
        fault("tale;", 5);
        fault("tale;  ", 7);
        fault("word", 4);
        fault("word ", 5);
        fault("word 3 to", 9);
        fault("word 3 worth  ", 14);
        fault("word 3 to 4 worth", 17);
        fault("tale of", 7);
        fault("hearer", 6);
        fault("hearer  ", 8);
    }

    /** On a new object: nothing comes, THE TAPE is empty, nothing is found. */
    private static void fault(String text, int place) {
        YearWords x = new YearWords();
        due(book(x, text), -1 - place);
        for (int what = 0; what < 5; what++) {
            due(x.count(what), 0);
        }
        due(x.status(-1), 0);
    }
}
