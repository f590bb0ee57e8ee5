/** Boundary cases of promises 43 to 47: images, counts, and what was found. */
final class ImageEdges {
    private ImageEdges() {
    }

    // ---- promise 43

    @Says(promise = 43, words = "All that section 1 tells")
    static void partsTalesHearersAndTheYearAreKept() {
        YearWords x = Edge.rich();
        Edge.due(x.image(), 1);
        x.set(1, 1, 5);
        x.set(1, 2, 12);
        x.set(1, 3, 9);
        x.turn(0, 5);
        x.part(0, 1, 1, 1);
        x.cut(0);
        x.tell(0, 5);
        x.tell(1, 3);
        x.tale();
        x.age(1, 3);
        x.hearer(7);
        x.years(60);
        Edge.due(x.undo(), 6);
        int[] counts = {6, 3, 4, 8, 1};
        for (int what = 0; what < 5; what++) {
            Edge.due(x.count(what), counts[what]);
        }
        int[] name = {1, 2, 5, 2};
        for (int what = 0; what < 4; what++) {
            Edge.due(x.partOf(1, what), name[what]);
        }
        Edge.due(x.partOf(0, 0), 0);
        Edge.due(x.size(0), 2);
        Edge.due(x.ith(0, 1), 4);
        Edge.due(x.size(1), 0);
        int[] ages = {9, 4, 0, 99};
        for (int h = 0; h < 4; h++) {
            Edge.due(x.ageOf(h), ages[h]);
        }
    }

    @Says(promise = 43, words = "(THE TAPE not) is kept: 1.")
    static void theTapeAndSheetsAreNotKept() {
        YearWords x = new YearWords();
        x.image();
        Edge.put(x, "tale");
        Edge.sheetOf(x, 0, 8, 7);
        Edge.due(x.undo(), 0);
        Edge.due(x.count(3), 4);
        Edge.due(x.write(0, 0, 8), 7);
        x.image();
        x.wipe();
        x.sheet(0, 0, 0);
        x.undo();
        Edge.due(x.count(3), 0);
        Edge.due(x.write(0, 0, 8), Edge.MISSING);
    }

    @Says(promise = 43, words = "is kept: 1.")
    static void anEmptyAndAFullOneAreKept() {
        YearWords x = new YearWords();
        Edge.due(x.image(), 1);
        Edge.due(x.image(), 1);
        Edge.due(x.undo(), 0);
        Edge.book(x, "pad1;pad1;pad1;pad1;pad1;pad1;pad1;pad1;pad1;pad1;pad1;pad1;pad1;pad1;pad1;pad1");
        for (int t = 0; t < 8; t++) {
            Edge.tell(x, 15, 1, 2, 3, 4, 5, 6, 7, 8, t);
        }
        for (int h = 0; h < 10; h++) {
            x.hearer(h);
        }
        Edge.due(x.image(), 1);
        for (int t = 0; t < 8; t++) {
            x.cut(t);
        }
        x.age(9, 99);
        x.set(15, 3, 9);
        Edge.due(x.undo(), 16);
        for (int t = 0; t < 8; t++) {
            Edge.due(x.size(t), 10);
            Edge.due(x.ith(t, 9), t);
        }
        Edge.due(x.ageOf(9), 9);
        Edge.due(x.partOf(15, 3), 1);
    }

    // ---- promise 44

    @Says(promise = 44, words = "It becomes what was kept latest")
    static void theLatestImageIsTakenBackTo() {
        YearWords x = new YearWords();
        x.hearer(1);
        x.image();
        x.age(0, 2);
        x.image();
        x.age(0, 3);
        Edge.due(x.undo(), 0);
        Edge.due(x.ageOf(0), 2);
    }

    @Says(promise = 44, words = "(which stays)")
    static void whatWasKeptStaysWhateverComes() {
        YearWords x = Edge.rich();
        for (int again = 0; again < 3; again++) {
            Edge.due(x.undo(), 6);
            Edge.due(x.ageOf(3), 98);
            Edge.due(x.size(0), 2);
            Edge.due(x.count(4), 1);
            x.age(3, 5);
            x.cut(0);
            x.set(0, 3, 9);
            x.years(9);
        }
        x.undo();
        Edge.due(x.partOf(0, 3), 1);
    }

    @Says(promise = 44, words = "how many PARTS.")
    static void undoTellsHowManyParts() {
        YearWords x = new YearWords();
        x.image();
        Edge.due(x.undo(), 0);
        for (int p = 0; p < 16; p++) {
            x.part(0, 1, 1, 0);
        }
        Edge.due(x.undo(), 0);
        for (int p = 0; p < 16; p++) {
            x.part(0, 1, 1, 0);
        }
        x.image();
        Edge.due(x.undo(), 16);
    }

    @Says(promise = 44, words = "NONE: nothing is kept.")
    static void undoOfNothingIsNone() {
        Edge.refused(Edge.NONE, () -> {
            YearWords x = Edge.rich();
            x.tear();
            return x;
        }, x -> x.undo());
        Edge.refused(Edge.NONE, YearWords::new, x -> x.undo());
    }

    // ---- promise 45

    @Says(promise = 45, words = "Nothing is kept: 1 if something was")
    static void whatWasKeptIsTorn() {
        YearWords x = Edge.rich();
        Edge.due(x.tear(), 1);
        Edge.due(x.undo(), Edge.NONE);
        Edge.due(x.ageOf(3), 99);
        Edge.due(x.count(0), 6);
        x.image();
        Edge.due(x.undo(), 6);
        Edge.due(x.tear(), 1);
    }

    @Says(promise = 45, words = "else 0.")
    static void tearOfNothingIs0AndNoFinding() {
        YearWords x = new YearWords();
        Edge.due(x.tear(), 0);
        x.image();
        x.tear();
        Edge.due(x.tear(), 0);
        Edge.due(x.status(-1), 0);
    }

    // ---- promise 46

    @Says(promise = 46, words = "0 PARTS, 1 TALES, 2 HEARERS, 3 bytes of THE TAPE, 4 YEAR.")
    static void countsGoFrom0ToTheMost() {
        YearWords x = new YearWords();
        for (int what = 0; what < 5; what++) {
            Edge.due(x.count(what), 0);
        }
        Edge.book(x, "pad1;pad1;pad1;pad1;pad1;pad1;pad1;pad1;pad1;pad1;pad1;pad1;pad1;pad1;pad1;pad1");
        Edge.book(x, "tale;tale;tale;tale;tale;tale;tale;tale");
        Edge.book(x, "hearer0;hearer1;hearer2;hearer3;hearer4;hearer5;hearer6;hearer7;hearer8;hearer9");
        for (int i = 0; i < 30; i++) {
            x.feed(0, 4);
        }
        for (int i = 0; i < 16; i++) {
            x.years(60);
        }
        x.years(39);
        int[] want = {16, 8, 10, 120, 999};
        for (int what = 0; what < 5; what++) {
            Edge.due(x.count(what), want[what]);
        }
    }

    @Says(promise = 46, words = "BEYOND: another what.")
    static void countOfAnotherWhatIsBeyond() {
        Edge.refused(Edge.BEYOND, x -> x.count(-1), x -> x.count(5), x -> x.count(Edge.LOW), x -> x.count(Edge.HIGH));
    }

    // ---- promise 47

    @Says(promise = 47, words = "which -1: all, 0 to 6: BEYOND to SIZE.",
        terms = "FINDINGS are answers below -1000000000: -1000000001 BEYOND, -1000000002 FULL, -1000000003 KIND, "
            + "-1000000004 NONE, -1000000005 STATE, -1000000006 MISSING, -1000000007 SIZE")
    static void eachFindingIsCountedForItself() {
        YearWords x = everyFinding(new YearWords());
        for (int which = 0; which < 7; which++) {
            Edge.due(x.status(which), which + 1);
        }
        Edge.due(x.status(-1), 28);
    }

    @Says(promise = 47, words = "How many acts answered a finding ever")
    static void findingsInLongsAreCountedToo() {
        YearWords x = Edge.rich();
        Edge.due(x.ways(0, 121), Edge.BEYOND);
        Edge.due(x.allWays(3), Edge.BEYOND);
        Edge.due(x.write(3, 0, 0), Edge.MISSING);
        Edge.due(x.status(0), 2);
        Edge.due(x.status(5), 1);
        Edge.due(x.status(-1), 3);
    }

    @Says(promise = 47, words = "ever (undo() takes none back)")
    static void undoTakesNoFindingBack() {
        YearWords x = new YearWords();
        x.image();
        everyFinding(x);
        x.undo();
        for (int which = 0; which < 7; which++) {
            Edge.due(x.status(which), which + 1);
        }
        x.image();
        x.tear();
        Edge.due(x.status(-1), 28);
        x.undo();
        Edge.due(x.status(-1), 29);
    }

    @Says(promise = 47, words = "BEYOND (counted from then on): another one.")
    static void statusOfAnotherOneIsBeyondAndCounted() {
        Edge.refused(Edge.BEYOND, x -> x.status(-2), x -> x.status(7), x -> x.status(Edge.LOW), x -> x.status(Edge.HIGH));
        YearWords x = new YearWords();
        Edge.due(x.status(-1), 0);
        Edge.due(x.status(7), Edge.BEYOND);
        Edge.due(x.status(-1), 1);
        Edge.due(x.status(0), 1);
        Edge.due(x.status(-2), Edge.BEYOND);
        Edge.due(x.status(0), 2);
    }

    @Says(promise = 47, words = "acts answered a finding", terms = "one that answers a finding changes nothing but status().")
    static void whatIsRefusedChangesNothingButStatus() {
        Edge.refused(Edge.BEYOND, x -> x.part(9, 9, 9, 9), x -> x.set(0, 1, 9), x -> x.turn(0, 9), x -> x.tell(0, 9),
            x -> x.age(0, 100), x -> x.hearer(100), x -> x.years(99), x -> x.feed(0, 9), x -> x.sheet(0, 8, 99),
            x -> x.write(0, 9, 9), x -> x.copy(0, 0, 0, 9, 9), x -> x.say(0, 9, 9), x -> x.read(0, 9, 9));
        Edge.refused(Edge.NONE, x -> x.cut(1), x -> x.say(0, 0, 99), x -> x.best(0, 99, 0));
        Edge.refused(Edge.MISSING, x -> x.lays(3), x -> x.write(3, 0, 9), x -> x.say(3, 0, 9));
        Edge.refused(Edge.SIZE, x -> x.sheet(0, 0, -1));
        Edge.refused(Edge.KIND, x -> x.copy(0, 0, 1, 0, 1), x -> x.as(0, 1));
        Edge.refused(Edge.STATE, x -> x.fills(0, 9));
    }

    /** One BEYOND, two times FULL, and so on to seven times SIZE. */
    private static YearWords everyFinding(YearWords x) {
        x.part(0, 1, 1, 0);
        Edge.tellTimes(x, 0, 10);
        x.size(1);
        for (int i = 0; i < 7; i++) {
            long[] got = {Edge.BEYOND, i < 2 ? x.tell(0, 0) : Edge.FULL, i < 3 ? x.as(0, 1) : Edge.KIND,
                i < 4 ? x.chain(0) : Edge.NONE, Edge.STATE, i < 6 ? x.lays(0) : Edge.MISSING, x.sheet(0, 8, -1)};
            for (int f = 0; f < 7; f++) {
                Edge.due(got[f], Edge.BEYOND - f);
            }
        }
        x.tale();
        for (int i = 0; i < 5; i++) {
            Edge.due(x.fills(1, 0), Edge.STATE);
        }
        return x;
    }
}
