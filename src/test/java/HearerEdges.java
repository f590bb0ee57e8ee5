/** Boundary cases of promises 19 to 26: HEARERS and YEARS. */
final class HearerEdges extends Edge {
    private HearerEdges() {
    }

    // ---- promise 19

    @Says(promise = 19, words = "A new HEARER: its number.", terms = {"HEARERS 0, 1, ..", "each with an AGE (0 to 99)"})
    static void hearersAreNumberedFrom0() {
        YearWords x = new YearWords();
        for (int h = 0; h < 10; h++) {
            due(x.hearer(11 * h), h);
        }
        for (int h = 0; h < 10; h++) {
            due(x.ageOf(h), 11 * h);
        }
    }

    @Says(promise = 19, words = "BEYOND.")
    static void aHearerBelow0OrAbove99IsBeyond() {
        refused(BEYOND, x -> x.hearer(-1), x -> x.hearer(100), x -> x.hearer(LOW), x -> x.hearer(HIGH));
    }

    @Says(promise = 19, words = "FULL.", terms = "(at most 10)")
    static void the11thHearerIsFull() {
        due(ten().count(2), 10);
        refused(FULL, HearerEdges::ten, x -> x.hearer(0), x -> x.hearer(99));
    }

    @Says(promise = 19, words = "BEYOND. FULL.")
    static void aWrong11thHearerIsBeyondAheadOfFull() {
        refused(BEYOND, HearerEdges::ten, x -> x.hearer(100), x -> x.hearer(-1));
    }

    private static YearWords ten() {
        YearWords x = withParts();
        for (int h = 0; h < 10; h++) {
            x.hearer(h);
        }
        return x;
    }

    // ---- promise 20

    @Says(promise = 20, words = "AGE of a HEARER becomes v: what it was.")
    static void anAgeCanBecome0And99() {
        YearWords x = rich();
        due(x.age(0, 99), 9);
        due(x.age(0, 0), 99);
        due(x.ageOf(0), 0);
        due(x.age(3, 3), 99);
        due(x.ageOf(3), 3);
        due(x.ageOf(1), 4);
    }

    @Says(promise = 20, words = "BEYOND.")
    static void ageOutOfBoundsIsBeyond() {
        refused(BEYOND, x -> x.age(-1, 5), x -> x.age(4, 5), x -> x.age(10, 5), x -> x.age(LOW, 5),
            x -> x.age(HIGH, 5), x -> x.age(0, -1), x -> x.age(0, 100), x -> x.age(0, LOW),
            x -> x.age(0, HIGH));
    }

    // ---- promise 21

    @Says(promise = 21, words = "AGE of a HEARER.")
    static void anAgeIs0To99() {
        due(rich().ageOf(2), 0);
        due(rich().ageOf(3), 99);
    }

    @Says(promise = 21, words = "BEYOND.")
    static void ageOfNoSuchHearerIsBeyond() {
        refused(BEYOND, x -> x.ageOf(-1), x -> x.ageOf(4), x -> x.ageOf(10), x -> x.ageOf(LOW),
            x -> x.ageOf(HIGH));
    }

    // ---- promise 22

    @Says(promise = 22, words = "HEARERS to whom a TALE CAN BE SAID, as a set.",
        terms = "to a HEARER a TALE CAN BE SAID, if there is a SAYING of it in just AGE words.")
    static void aTaleIsSaidInJustAgeWords() {
        YearWords x = withParts();
        tell(x, 1, 4);
        due(x.to(0), 0);
        hear(x, 3, 4, 13, 14, 0, 99, 8, 9, 5, 12);
        due(x.to(0), setOf(1, 2, 6, 7, 8, 9));
    }

    @Says(promise = 22, words = "as a set")
    static void aSetOfAllTenHearers() {
        YearWords x = ten();
        tell(x, 5, 5);
        due(x.to(0), 1023);
    }

    @Says(promise = 22, words = "CAN BE SAID", terms = "(An empty one CAN BE SAID to one of AGE 0 alone")
    static void anEmptyTaleIsSaidToOneOfAge0Alone() {
        YearWords x = rich();
        due(x.to(1), setOf(2));
        x.age(2, 1);
        due(x.to(1), 0);
    }

    @Says(promise = 22, words = "a TALE CAN BE SAID")
    static void aTaleCanBeSaidTo99() {
        YearWords x = new YearWords();
        x.part(0, 11, 11, 0);
        tellTimes(x, 0, 9);
        hear(x, 98, 99, 0, 35);
        due(x.to(0), setOf(1));
    }

    @Says(promise = 22, words = "BEYOND.")
    static void toOfNoSuchTaleIsBeyond() {
        refused(BEYOND, x -> x.to(-1), x -> x.to(3), x -> x.to(8), x -> x.to(LOW), x -> x.to(HIGH));
    }

    // ---- promise 23

    @Says(promise = 23, words = "TALES that CAN BE SAID to a HEARER, as a set.")
    static void aSetOfAllEightTales() {
        YearWords x = withParts();
        hear(x, 0, 3);
        due(x.tales(0), 0);
        for (int t = 0; t < 8; t++) {
            tell(x, t % 2 == 0 ? 5 : 0);
        }
        due(x.tales(0), 85);
        due(x.tales(1), 255);
    }

    @Says(promise = 23, words = "TALES that CAN BE SAID")
    static void onlyEmptyTalesAreSaidIn0Words() {
        YearWords x = rich();
        due(x.tales(2), setOf(1));
        due(x.tales(3), 0);
        due(x.tales(0), setOf(0));
    }

    @Says(promise = 23, words = "BEYOND.")
    static void talesOfNoSuchHearerIsBeyond() {
        refused(BEYOND, x -> x.tales(-1), x -> x.tales(4), x -> x.tales(10), x -> x.tales(LOW),
            x -> x.tales(HIGH));
    }

    // ---- promise 24

    @Says(promise = 24, words = "n YEARS go (1 to 60)", terms = {"A YEAR goes", "each AGE below 99 is one more.",
        "Then YEAR is one more."})
    static void oneYearAndSixtyGo() {
        YearWords x = new YearWords();
        hear(x, 0, 98, 99, 40);
        due(x.years(1), 0);
        int[] want = {1, 99, 99, 41};
        for (int h = 0; h < 4; h++) {
            due(x.ageOf(h), want[h]);
        }
        due(x.count(4), 1);
        due(x.years(60), 0);
        due(x.ageOf(0), 61);
        due(x.ageOf(1), 99);
        due(x.ageOf(3), 99);
        due(x.count(4), 61);
    }

    @Says(promise = 24, words = "how many pairs of a TALE and a HEARER to whom it could be said before can't be any more.")
    static void pairsAreJudgedBeforeAndAfterAllYears() {
        YearWords x = rich();
        // TALE 2 in 3 or 7 words: to one of 3 it can be said again in 4 YEARS, though not between.
        x.age(0, 3);
        x.age(1, 7);
        x.age(2, 99);
        due(x.years(4), 1);
        YearWords y = rich();
        // TALE 2 is lost to the first and won for the others: what is won is not counted against it.
        y.age(0, 3);
        y.age(1, 2);
        y.age(2, 2);
        due(y.years(1), 1);
    }

    @Says(promise = 24, words = "pairs of a TALE and a HEARER")
    static void allEightyPairsCanBeLost() {
        YearWords x = withParts();
        for (int t = 0; t < 8; t++) {
            x.tale();
        }
        for (int h = 0; h < 10; h++) {
            x.hearer(0);
        }
        due(x.years(1), 80);
        due(x.years(1), 0);
    }

    @Says(promise = 24, words = "can't be any more")
    static void toOneOf99NothingIsLost() {
        YearWords x = new YearWords();
        x.part(0, 11, 11, 0);
        tellTimes(x, 0, 9);
        hear(x, 99, 98);
        due(x.years(60), 0);
        due(x.to(0), 3);
    }

    @Says(promise = 24, words = "BEYOND.")
    static void yearsBelow1OrAbove60AreBeyond() {
        refused(BEYOND, x -> x.years(0), x -> x.years(-1), x -> x.years(61), x -> x.years(LOW),
            x -> x.years(HIGH));
    }

    @Says(promise = 24, words = "STATE: YEAR would be above 999.", terms = "999 at most): each AGE")
    static void yearsUpTo999AndNoMore() {
        YearWords x = at(940);
        due(x.years(59), 0);
        due(x.count(4), 999);
        refused(STATE, () -> at(940), y -> y.years(60));
        refused(STATE, () -> at(999), y -> y.years(1), y -> y.years(60));
    }

    @Says(promise = 24, words = "BEYOND. STATE")
    static void wrongYearsAreBeyondAheadOfState() {
        refused(BEYOND, () -> at(999), x -> x.years(0), x -> x.years(61), x -> x.years(HIGH));
    }

    /** In that YEAR, with a HEARER who comes last. */
    private static YearWords at(int year) {
        YearWords x = withParts();
        for (int left = year; left > 0; left -= Math.min(60, left)) {
            x.years(Math.min(60, left));
        }
        x.hearer(7);
        return x;
    }

    // ---- promise 25

    @Says(promise = 25, words = "In how many YEARS (0 to 99) a TALE CAN BE SAID to a HEARER first.")
    static void firstSaidIn0To99Years() {
        YearWords x = ninetyNine();
        due(x.when(0, 0), 99);
        due(x.when(0, 1), 0);
        due(x.when(0, 2), 1);
        YearWords y = rich();
        due(y.when(0, 0), 0);
        due(y.when(0, 2), 4);
        due(y.when(2, 1), 3);
        due(y.when(1, 2), 0);
    }

    @Says(promise = 25, words = "In how many YEARS (0 to 99)")
    static void whenLooksOnBeyondYear999() {
        YearWords x = at(999);
        tell(x, 0, 0, 0);
        due(x.when(0, 0), 2);
    }

    @Says(promise = 25, words = "BEYOND.")
    static void whenOfNoSuchTaleOrHearerIsBeyond() {
        refused(BEYOND, x -> x.when(-1, 0), x -> x.when(3, 0), x -> x.when(LOW, 0), x -> x.when(HIGH, 0),
            x -> x.when(0, -1), x -> x.when(0, 4), x -> x.when(0, LOW), x -> x.when(0, HIGH));
    }

    @Says(promise = 25, words = "NONE.")
    static void neverSaidIsNone() {
        // 14 words are too old for TALE 0, one word for the empty one, and none is older than 99.
        refused(NONE, x -> x.when(0, 3), x -> x.when(1, 1), x -> x.when(2, 0));
        YearWords x = new YearWords();
        x.part(0, 10, 10, 0);
        tellTimes(x, 0, 10);
        x.hearer(0);
        due(x.when(0, 0), NONE);
    }

    /** A TALE of 99 words; HEARERS of 0, 99 and 98. */
    private static YearWords ninetyNine() {
        YearWords x = new YearWords();
        x.part(0, 11, 11, 0);
        tellTimes(x, 0, 9);
        hear(x, 0, 99, 98);
        return x;
    }

    // ---- promise 26

    @Says(promise = 26, words = "The least n (0 to 99) such that in n YEARS a TALE can't be said to a HEARER")
    static void firstUnsaidIn0To99Years() {
        YearWords x = rich();
        due(x.till(0, 0), 5);
        due(x.till(0, 3), 0);
        due(x.till(1, 2), 1);
        due(x.till(0, 1), 10);
        YearWords y = pads();
        due(y.till(0, 0), 99);
        due(y.till(0, 1), 1);
        due(y.till(0, 2), 0);
    }

    @Says(promise = 26, words = "100, if there is none.")
    static void neverUnsaidIs100() {
        YearWords x = ninetyNine();
        due(x.till(0, 1), 100);
        due(x.till(0, 2), 0);
        YearWords y = pads();
        y.set(1, 2, 3);
        due(y.till(0, 0), 100);
        due(y.till(0, 1), 100);
        due(y.till(0, 2), 100);
        due(y.status(-1), 0);
    }

    @Says(promise = 26, words = "BEYOND.")
    static void tillOfNoSuchTaleOrHearerIsBeyond() {
        refused(BEYOND, x -> x.till(-1, 0), x -> x.till(3, 0), x -> x.till(LOW, 0), x -> x.till(HIGH, 0),
            x -> x.till(0, -1), x -> x.till(0, 4), x -> x.till(0, LOW), x -> x.till(0, HIGH));
    }

    /** A TALE of 0 to 98 words; HEARERS of 0, 98 and 99. */
    private static YearWords pads() {
        YearWords x = new YearWords();
        x.part(5, 12, 12, 0);
        x.part(5, 2, 2, 0);
        tell(x, 0, 0, 0, 0, 0, 0, 0, 0, 1);
        hear(x, 0, 98, 99);
        return x;
    }
}
