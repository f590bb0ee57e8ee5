/** Boundary cases of promises 43 to 47: images, counts, and what was found. */
final class ImageEdges extends Edge {
    private ImageEdges() {
    }

    // ---- promise 43

    @Says(promise = 43, words = "All that section 1 tells")
    static void partsTalesHearersAndTheYearAreKept() {
        YearWords x = rich();
        due(x.image(), 1);
        x.set(1, 1, 5);
        x.set(1, 2, 12);
        x.set(1, 3, 9);
        x.turn(0, 5);
        x.part(0, 1, 1, 1);
        x.cut(0);
        x.tell(0, 5);
        x.tell(1, 3);
        x.tale();
        x.age(1, 3);
        x.hearer(7);
        x.years(60);
        due(x.undo(), 6);
        int[] counts = {6, 3, 4, 8, 1};
        for (int what = 0; what < 5; what++) {
            due(x.count(what), counts[what]);
        }
        int[] name = {1, 2, 5, 2};
        for (int what = 0; what < 4; what++) {
            due(x.partOf(1, what), name[what]);
        }
        due(x.partOf(0, 0), 0);
        due(x.size(0), 2);
        due(x.ith(0, 1), 4);
        due(x.size(1), 0);
        int[] ages = {9, 4, 0, 99};
        for (int h = 0; h < 4; h++) {
            due(x.ageOf(h), ages[h]);
        }
    }

    @Says(promise = 43, words = "(THE TAPE not) is kept: 1.")
    static void theTapeAndSheetsAreNotKept() {
        YearWords x = new YearWords();
        x.image();
        put(x, "tale");
        sheetOf(x, 0, 8, 7);
        due(x.undo(), 0);
        due(x.count(3), 4);
        due(x.write(0, 0, 8), 7);
        x.image();
        x.wipe();
        x.sheet(0, 0, 0);
        x.undo();
        due(x.count(3), 0);
        due(x.write(0, 0, 8), MISSING);
    }

    @Says(promise = 43, words = "is kept: 1.")
    static void anEmptyAndAFullOneAreKept() {
        YearWords x = new YearWords();
        due(x.image(), 1);
        due(x.image(), 1);
        due(x.undo(), 0);
        book(x, "pad1;pad1;pad1;pad1;pad1;pad1;pad1;pad1;pad1;pad1;pad1;pad1;pad1;pad1;pad1;pad1");
        for (int t = 0; t < 8; t++) {
            tell(x, 15, 1, 2, 3, 4, 5, 6, 7, 8, t);
        }
        for (int h = 0; h < 10; h++) {
            x.hearer(h);
        }
        due(x.image(), 1);
        for (int t = 0; t < 8; t++) {
            x.cut(t);
            x.cut(t);
            x.tell(t, 15);
        }
        x.age(9, 99);
        x.set(15, 2, 9);
        x.set(15, 1, 9);
        x.set(15, 3, 9);
        x.turn(15, 0);
        due(x.undo(), 16);
        for (int t = 0; t < 8; t++) {
            due(x.size(t), 10);
            due(x.ith(t, 8), 8);
            due(x.ith(t, 9), t);
        }
        due(x.ageOf(9), 9);
        int[] last = {5, 1, 1, 1};
        for (int what = 0; what < 4; what++) {
            due(x.partOf(15, what), last[what]);
        }
    }

    // ---- promise 44

    @Says(promise = 44, words = "It becomes what was kept latest")
    static void theLatestImageIsTakenBackTo() {
        YearWords x = new YearWords();
        x.hearer(1);
        x.image();
        x.age(0, 2);
        x.image();
        x.age(0, 3);
        due(x.undo(), 0);
        due(x.ageOf(0), 2);
    }

    @Says(promise = 44, words = "(which stays)")
    static void whatWasKeptStaysWhateverComes() {
        YearWords x = rich();
        for (int again = 0; again < 3; again++) {
            due(x.undo(), 6);
            due(x.ageOf(3), 98);
            due(x.size(0), 2);
            due(x.count(4), 1);
            x.age(3, 5);
            x.cut(0);
            x.set(0, 3, 9);
            x.years(9);
        }
        x.undo();
        due(x.partOf(0, 3), 1);
    }

    @Says(promise = 44, words = "how many PARTS.")
    static void undoTellsHowManyParts() {
        YearWords x = new YearWords();
        x.image();
        due(x.undo(), 0);
        for (int p = 0; p < 16; p++) {
            x.part(0, 1, 1, 0);
        }
        due(x.undo(), 0);
        for (int p = 0; p < 16; p++) {
            x.part(0, 1, 1, 0);
        }
        x.image();
        due(x.undo(), 16);
    }

    @Says(promise = 44, words = "NONE: nothing is kept.")
    static void undoOfNothingIsNone() {
        refused(NONE, () -> {
            YearWords x = rich();
            x.tear();
            return x;
        }, x -> x.undo());
        refused(NONE, YearWords::new, x -> x.undo());
    }

    // ---- promise 45

    @Says(promise = 45, words = "Nothing is kept: 1 if something was")
    static void whatWasKeptIsTorn() {
        YearWords x = rich();
        due(x.tear(), 1);
        due(x.undo(), NONE);
        due(x.ageOf(3), 99);
        due(x.count(0), 6);
        x.image();
        due(x.undo(), 6);
        due(x.tear(), 1);
    }

    @Says(promise = 45, words = "else 0.")
    static void tearOfNothingIs0AndNoFinding() {
        YearWords x = new YearWords();
        due(x.tear(), 0);
        x.image();
        x.tear();
        due(x.tear(), 0);
        due(x.status(-1), 0);
    }

    // ---- promise 46

    @Says(promise = 46, words = "0 PARTS, 1 TALES, 2 HEARERS, 3 bytes of THE TAPE, 4 YEAR.")
    static void countsGoFrom0ToTheMost() {
        YearWords x = new YearWords();
        for (int what = 0; what < 5; what++) {
            due(x.count(what), 0);
        }
        book(x, "pad1;pad1;pad1;pad1;pad1;pad1;pad1;pad1;pad1;pad1;pad1;pad1;pad1;pad1;pad1;pad1");
        book(x, "tale;tale;tale;tale;tale;tale;tale;tale");
        book(x, "hearer0;hearer1;hearer2;hearer3;hearer4;hearer5;hearer6;hearer7;hearer8;hearer9");
        for (int i = 0; i < 30; i++) {
            x.feed(0, 4);
        }
        for (int i = 0; i < 16; i++) {
            x.years(60);
        }
        x.years(39);
        int[] want = {16, 8, 10, 120, 999};
        for (int what = 0; what < 5; what++) {
            due(x.count(what), want[what]);
        }
    }

    @Says(promise = 46, words = "BEYOND: another what.")
    static void countOfAnotherWhatIsBeyond() {
        refused(BEYOND, x -> x.count(-1), x -> x.count(5), x -> x.count(LOW), x -> x.count(HIGH));
    }

    // ---- promise 47

    @Says(promise = 47, words = "which -1: all, 0 to 6: BEYOND to SIZE.",
        terms = "FINDINGS are answers below -1000000000: -1000000001 BEYOND, -1000000002 FULL, -1000000003 KIND, "
            + "-1000000004 NONE, -1000000005 STATE, -1000000006 MISSING, -1000000007 SIZE")
    static void eachFindingIsCountedForItself() {
        YearWords x = everyFinding(new YearWords());
        for (int which = 0; which < 7; which++) {
            due(x.status(which), which + 1);
        }
        due(x.status(-1), 28);
    }

    @Says(promise = 47, words = "How many acts answered a finding ever")
    static void findingsInLongsAreCountedToo() {
        YearWords x = rich();
        due(x.ways(0, 121), BEYOND);
        due(x.allWays(3), BEYOND);
        due(x.write(3, 0, 0), MISSING);
        due(x.status(0), 2);
        due(x.status(5), 1);
        due(x.status(-1), 3);
    }

    @Says(promise = 47, words = "ever (undo() takes none back)")
    static void undoTakesNoFindingBack() {
        YearWords x = new YearWords();
        x.image();
        everyFinding(x);
        x.undo();
        for (int which = 0; which < 7; which++) {
            due(x.status(which), which + 1);
        }
        x.image();
        x.tear();
        due(x.status(-1), 28);
        x.undo();
        due(x.status(-1), 29);
    }

    @Says(promise = 47, words = "BEYOND (counted from then on): another one.")
    static void statusOfAnotherOneIsBeyondAndCounted() {
        refused(BEYOND, x -> x.status(-2), x -> x.status(7), x -> x.status(LOW), x -> x.status(HIGH));
        YearWords x = new YearWords();
        due(x.status(-1), 0);
        due(x.status(7), BEYOND);
        due(x.status(-1), 1);
        due(x.status(0), 1);
        due(x.status(-2), BEYOND);
        due(x.status(0), 2);
    }

    @Says(promise = 47, words = "acts answered a finding", terms = "one that answers a finding changes nothing but status().")
    static void whatIsRefusedChangesNothingButStatus() {
        refused(BEYOND, x -> x.part(9, 9, 9, 9), x -> x.set(0, 1, 9), x -> x.turn(0, 9), x -> x.tell(0, 9),
            x -> x.age(0, 100), x -> x.hearer(100), x -> x.years(99), x -> x.feed(0, 9), x -> x.sheet(0, 8, 99),
            x -> x.write(0, 9, 9), x -> x.copy(0, 0, 0, 9, 9), x -> x.say(0, 9, 9), x -> x.read(0, 9, 9));
        refused(NONE, x -> x.cut(1), x -> x.say(0, 0, 99), x -> x.best(0, 99, 0));
        refused(MISSING, x -> x.lays(3), x -> x.write(3, 0, 9), x -> x.say(3, 0, 9));
        refused(SIZE, x -> x.sheet(0, 0, -1));
        refused(KIND, x -> x.copy(0, 0, 1, 0, 1), x -> x.as(0, 1));
        refused(STATE, x -> x.fills(0, 9));
    }

    /** One BEYOND, two times FULL, and so on to seven times SIZE. */
    private static YearWords everyFinding(YearWords x) {
        x.part(0, 1, 1, 0);
        tellTimes(x, 0, 10);
        x.size(1);
        for (int i = 0; i < 7; i++) {
            long[] got = {BEYOND, i < 2 ? x.tell(0, 0) : FULL, i < 3 ? x.as(0, 1) : KIND,
                i < 4 ? x.chain(0) : NONE, STATE, i < 6 ? x.lays(0) : MISSING, x.sheet(0, 8, -1)};
            for (int f = 0; f < 7; f++) {
                due(got[f], BEYOND - f);
            }
        }
        x.tale();
        for (int i = 0; i < 5; i++) {
            due(x.fills(1, 0), STATE);
        }
        return x;
    }
}
