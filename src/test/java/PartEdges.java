/** Boundary cases of promises 1 to 7: a new object, and PARTS. */
final class PartEdges extends Edge {
    private PartEdges() {
    }

    // ---- promise 1

    @Says(promise = 1, words = "No PARTS")
    static void aNewObjectHasNoParts() {
        YearWords other = rich();
        YearWords x = new YearWords();
        due(x.count(0), 0);
        due(x.partOf(0, 0), BEYOND);
        due(other.count(0), 6);
    }

    @Says(promise = 1, words = "TALES")
    static void aNewObjectHasNoTales() {
        YearWords other = rich();
        YearWords x = new YearWords();
        due(x.count(1), 0);
        due(x.size(0), BEYOND);
        due(other.count(1), 3);
    }

    @Says(promise = 1, words = "HEARERS")
    static void aNewObjectHasNoHearers() {
        YearWords other = rich();
        YearWords x = new YearWords();
        due(x.count(2), 0);
        due(x.ageOf(0), BEYOND);
        due(other.count(2), 4);
    }

    @Says(promise = 1, words = "THE TAPE is empty")
    static void aNewObjectHasAnEmptyTape() {
        YearWords x = new YearWords();
        due(x.count(3), 0);
        due(x.wipe(), 0);
        due(x.book(), -1);
    }

    @Says(promise = 1, words = "no image is kept")
    static void aNewObjectKeepsNoImage() {
        YearWords x = new YearWords();
        due(x.undo(), NONE);
        due(x.tear(), 0);
    }

    @Says(promise = 1, words = "No PARTS, TALES, HEARERS; THE TAPE is empty, no image is kept.", terms = "YEAR is 0 at first")
    static void aNewObjectIsInYear0() {
        YearWords x = new YearWords();
        due(x.count(4), 0);
        x.years(1);
        due(x.count(4), 1);
    }

    // ---- promise 2

    @Says(promise = 2, words = "A new PART: its number.", terms = "PARTS 0, 1, ..")
    static void partsAreNumberedFrom0() {
        YearWords x = new YearWords();
        for (int p = 0; p < 16; p++) {
            due(x.part(p % 6, 1 + p % 12, 12, p % 10), p);
        }
        for (int p = 0; p < 16; p++) {
            due(x.partOf(p, 0), p % 6);
            due(x.partOf(p, 1), 1 + p % 12);
            due(x.partOf(p, 2), 12);
            due(x.partOf(p, 3), p % 10);
        }
    }

    @Says(promise = 2, words = "BEYOND: kind")
    static void kindBelow0OrAbove5IsBeyond() {
        refused(BEYOND, x -> x.part(-1, 1, 1, 0), x -> x.part(6, 1, 1, 0), x -> x.part(LOW, 1, 1, 0),
            x -> x.part(HIGH, 1, 1, 0));
        YearWords x = new YearWords();
        due(x.part(0, 1, 1, 0), 0);
        due(x.part(5, 1, 1, 0), 1);
    }

    @Says(promise = 2, words = "least", terms = "each with a LEAST and a MOST (1 to 12")
    static void leastBelow1IsBeyond() {
        refused(BEYOND, x -> x.part(0, 0, 1, 0), x -> x.part(0, -1, 1, 0), x -> x.part(0, LOW, 12, 0),
            x -> x.part(0, 13, 13, 0), x -> x.part(0, HIGH, HIGH, 0));
        YearWords x = new YearWords();
        due(x.part(0, 1, 1, 0), 0);
        due(x.part(0, 12, 12, 0), 1);
    }

    @Says(promise = 2, words = "most")
    static void mostAbove12IsBeyond() {
        refused(BEYOND, x -> x.part(0, 12, 13, 0), x -> x.part(0, 1, HIGH, 0), x -> x.part(0, 1, 0, 0),
            x -> x.part(0, 1, LOW, 0), x -> x.part(0, 0, 0, 0));
        due(new YearWords().part(0, 1, 12, 0), 0);
    }

    @Says(promise = 2, words = "BEYOND: kind, least, most", terms = "LEAST not above MOST)")
    static void leastAboveMostIsBeyond() {
        refused(BEYOND, x -> x.part(1, 2, 1, 0), x -> x.part(1, 12, 11, 0), x -> x.part(0, 12, 1, 0));
        YearWords x = new YearWords();
        due(x.part(1, 11, 11, 0), 0);
        due(x.part(1, 11, 12, 0), 1);
    }

    @Says(promise = 2, words = "worth", terms = "and a WORTH (0 to 9)")
    static void worthBelow0OrAbove9IsBeyond() {
        refused(BEYOND, x -> x.part(0, 1, 1, -1), x -> x.part(0, 1, 1, 10), x -> x.part(0, 1, 1, LOW),
            x -> x.part(0, 1, 1, HIGH));
        YearWords x = new YearWords();
        due(x.part(0, 1, 1, 0), 0);
        due(x.part(0, 1, 1, 9), 1);
        due(x.partOf(1, 3), 9);
    }

    @Says(promise = 2, words = "FULL", terms = "(at most 16)")
    static void the17thPartIsFull() {
        due(sixteen().count(0), 16);
        refused(FULL, PartEdges::sixteen, x -> x.part(0, 1, 1, 0), x -> x.part(5, 12, 12, 9));
    }

    @Says(promise = 2, words = "BEYOND: kind, least, most, worth. FULL.",
        terms = "Each act tells its findings in the order in which they are asked")
    static void aWrong17thPartIsBeyondAheadOfFull() {
        refused(BEYOND, PartEdges::sixteen, x -> x.part(6, 1, 1, 0), x -> x.part(0, 0, 1, 0),
            x -> x.part(0, 1, 13, 0), x -> x.part(0, 2, 1, 0), x -> x.part(0, 1, 1, 10));
    }

    private static YearWords sixteen() {
        YearWords x = new YearWords();
        for (int p = 0; p < 16; p++) {
            x.part(p % 6, 1, 2, 3);
        }
        return x;
    }

    // ---- promise 3

    @Says(promise = 3, words = "Of a PART: what 0 KIND, 1 LEAST, 2 MOST, 3 WORTH")
    static void whatOfAPartIsToldInOrder() {
        YearWords x = new YearWords();
        x.part(4, 2, 7, 9);
        int[] want = {4, 2, 7, 9};
        for (int what = 0; what < 4; what++) {
            due(x.partOf(0, what), want[what]);
        }
    }

    @Says(promise = 3, words = "4 LENGTHS, as a set (bits 0 to 24)", terms = "Sets are told by bits.")
    static void lengthsGoFrom0To24() {
        YearWords x = new YearWords();
        x.part(5, 1, 1, 0);
        due(x.partOf(0, 4), 3);
        x.part(4, 12, 12, 0);
        due(x.partOf(1, 4), 1 << 12 | 1 << 24);
        x.part(4, 1, 12, 0);
        due(x.partOf(2, 4), 0x1555FFE);
    }

    @Says(promise = 3, words = "BEYOND.")
    static void noSuchPartIsBeyond() {
        refused(BEYOND, x -> x.partOf(-1, 0), x -> x.partOf(6, 0), x -> x.partOf(16, 4),
            x -> x.partOf(LOW, 0), x -> x.partOf(HIGH, 4));
        due(rich().partOf(5, 0), 5);
    }

    @Says(promise = 3, words = "BEYOND.")
    static void anotherWhatOfAPartIsBeyond() {
        refused(BEYOND, x -> x.partOf(0, -1), x -> x.partOf(0, 5), x -> x.partOf(0, LOW),
            x -> x.partOf(0, HIGH));
    }

    @Says(promise = 3, words = "4 LENGTHS",
        terms = "LENGTHS of a PART, in how many words it can be said: WORD: LEAST alone.")
    static void aWordHasItsLeastAlone() {
        due(lengths(0, 1, 1), 1 << 1);
        due(lengths(0, 1, 12), 1 << 1);
        due(lengths(0, 12, 12), 1 << 12);
    }

    @Says(promise = 3, words = "4 LENGTHS", terms = "NAME: LEAST to MOST.")
    static void aNameHasBothItsEnds() {
        due(lengths(1, 4, 4), 1 << 4);
        due(lengths(1, 1, 12), 8190);
        due(lengths(1, 11, 12), 3 << 11);
    }

    @Says(promise = 3, words = "4 LENGTHS", terms = "LINK: as WORD, and 0.")
    static void aLinkHas0Too() {
        due(lengths(2, 1, 12), 3);
        due(lengths(2, 12, 12), 1 | 1 << 12);
    }

    @Says(promise = 3, words = "4 LENGTHS", terms = "TITLE: of those of a NAME the ones that are even more than LEAST.")
    static void aTitleIsEvenMoreThanItsLeast() {
        due(lengths(3, 3, 3), 1 << 3);
        due(lengths(3, 3, 4), 1 << 3);
        due(lengths(3, 3, 5), 1 << 3 | 1 << 5);
        due(lengths(3, 2, 5), 1 << 2 | 1 << 4);
        due(lengths(3, 1, 12), setOf(1, 3, 5, 7, 9, 11));
        due(lengths(3, 2, 12), setOf(2, 4, 6, 8, 10, 12));
    }

    @Says(promise = 3, words = "4 LENGTHS", terms = "ECHO: as NAME, and twice each of these.")
    static void anEchoHasTwiceEachToo() {
        due(lengths(4, 1, 1), 1 << 1 | 1 << 2);
        due(lengths(4, 3, 4), setOf(3, 4, 6, 8));
        due(lengths(4, 2, 4), setOf(2, 3, 4, 6, 8));
        due(lengths(4, 11, 12), setOf(11, 12, 22, 24));
    }

    @Says(promise = 3, words = "4 LENGTHS", terms = "PAD: as LINK, and all from 1 to MOST.")
    static void aPadHasAllFrom0() {
        due(lengths(5, 1, 1), 3);
        due(lengths(5, 7, 7), 255);
        due(lengths(5, 2, 7), 255);
        due(lengths(5, 12, 12), 8191);
    }

    private static int lengths(int kind, int least, int most) {
        YearWords x = new YearWords();
        x.part(kind, least, most, 1);
        return x.partOf(0, 4);
    }

    // ---- promise 4

    @Says(promise = 4, words = "LEAST (what 1)")
    static void leastCanBeSetTo1AndToMost() {
        YearWords x = withParts();
        due(x.set(1, 1, 1), 2);
        due(x.set(1, 1, 5), 1);
        due(x.partOf(1, 1), 5);
        due(x.partOf(1, 4), 1 << 5);
    }

    @Says(promise = 4, words = "MOST (2)")
    static void mostCanBeSetTo12AndToLeast() {
        YearWords x = withParts();
        due(x.set(1, 2, 12), 5);
        due(x.set(1, 2, 2), 12);
        due(x.partOf(1, 2), 2);
        due(x.partOf(1, 4), 1 << 2);
    }

    @Says(promise = 4, words = "WORTH (3) of a PART becomes v: what it was.")
    static void worthCanBeSetTo0AndTo9() {
        YearWords x = withParts();
        due(x.set(1, 3, 9), 2);
        due(x.set(1, 3, 0), 9);
        due(x.set(1, 3, 0), 0);
        due(x.partOf(1, 3), 0);
        due(x.value(1, 5), 0);
    }

    @Says(promise = 4, words = "BEYOND")
    static void setOfNoSuchPartIsBeyond() {
        refused(BEYOND, x -> x.set(6, 3, 1), x -> x.set(-1, 3, 1), x -> x.set(LOW, 1, 1),
            x -> x.set(HIGH, 2, 12));
    }

    @Says(promise = 4, words = "BEYOND")
    static void setOfAnotherWhatIsBeyond() {
        refused(BEYOND, x -> x.set(1, 0, 1), x -> x.set(1, 4, 1), x -> x.set(1, -1, 1),
            x -> x.set(1, LOW, 1), x -> x.set(1, HIGH, 1));
    }

    @Says(promise = 4, words = "BEYOND")
    static void setOutOfBoundsIsBeyond() {
        refused(BEYOND, x -> x.set(1, 1, 0), x -> x.set(1, 1, LOW), x -> x.set(1, 2, 13),
            x -> x.set(1, 2, HIGH), x -> x.set(1, 3, -1), x -> x.set(1, 3, 10), x -> x.set(1, 3, LOW),
            x -> x.set(1, 3, HIGH));
    }

    @Says(promise = 4, words = "(also LEAST above MOST)")
    static void setOfLeastAboveMostIsBeyond() {
        refused(BEYOND, x -> x.set(1, 1, 6), x -> x.set(1, 1, 12), x -> x.set(1, 1, 13), x -> x.set(1, 2, 1),
            x -> x.set(1, 2, 0), x -> x.set(1, 1, HIGH), x -> x.set(1, 2, LOW));
    }

    @Says(promise = 4, words = "LEAST (what 1), MOST (2)")
    static void ofAWordMostStillBoundsLeast() {
        // MOST of a WORD says nothing of its LENGTHS, yet LEAST must not be above it.
        refused(BEYOND, x -> x.set(0, 1, 8), x -> x.set(0, 2, 2));
        YearWords x = withParts();
        due(x.set(0, 1, 7), 3);
        due(x.partOf(0, 4), 1 << 7);
    }

    // ---- promise 5

    @Says(promise = 5, words = "A PART becomes one of another KIND: what it was.")
    static void aTurnedPartKeepsTheRest() {
        YearWords x = withParts();
        int[] want = {1 << 3, 0xF8, 1 | 1 << 3, setOf(3, 5, 7), 0xF8 | setOf(6, 8, 10, 12, 14), 255};
        for (int kind = 0; kind < 6; kind++) {
            due(x.turn(0, kind), Math.max(0, kind - 1));
            due(x.partOf(0, 0), kind);
            due(x.partOf(0, 1), 3);
            due(x.partOf(0, 2), 7);
            due(x.partOf(0, 3), 1);
            due(x.partOf(0, 4), want[kind]);
        }
    }

    @Says(promise = 5, words = "what it was")
    static void aTurnToTheSameKindChangesNothing() {
        YearWords x = withParts();
        due(x.turn(4, 4), 4);
        due(x.partOf(4, 0), 4);
        due(x.status(-1), 0);
    }

    @Says(promise = 5, words = "another KIND")
    static void aTurnedPartIsTurnedInEachTale() {
        YearWords x = rich();
        due(x.ways(2, 4), 0);
        due(x.turn(0, 5), 0);
        due(x.ways(2, 4), 2);
    }

    @Says(promise = 5, words = "BEYOND.")
    static void turnOfNoSuchPartOrKindIsBeyond() {
        refused(BEYOND, x -> x.turn(6, 0), x -> x.turn(-1, 0), x -> x.turn(0, 6), x -> x.turn(0, -1),
            x -> x.turn(LOW, 0), x -> x.turn(HIGH, 0), x -> x.turn(0, LOW), x -> x.turn(0, HIGH));
    }

    // ---- promise 6

    @Says(promise = 6, words = "A PART as one of a kind: WORTH.",
        terms = {"are of KINDS: 0 WORD, 1 NAME under WORD, 2 LINK under WORD", "3 TITLE under NAME, 4 ECHO under NAME, 5 PAD under LINK"})
    static void aPartIsAsItsOwnKindAndThoseItStandsUnder() {
        YearWords x = withParts();
        int[][] above = {{0}, {1, 0}, {2, 0}, {3, 1, 0}, {4, 1, 0}, {5, 2, 0}};
        for (int p = 0; p < 6; p++) {
            for (int kind : above[p]) {
                due(x.as(p, kind), p + 1);
            }
        }
    }

    @Says(promise = 6, words = "BEYOND: no such PART")
    static void asOfNoSuchPartIsBeyond() {
        refused(BEYOND, x -> x.as(6, 0), x -> x.as(-1, 0), x -> x.as(LOW, 0), x -> x.as(HIGH, 0));
    }

    @Says(promise = 6, words = "kind. KIND")
    static void asOfNoSuchKindIsBeyondAndNotKind() {
        refused(BEYOND, x -> x.as(0, 6), x -> x.as(0, -1), x -> x.as(0, LOW), x -> x.as(0, HIGH),
            x -> x.as(6, 6));
    }

    @Says(promise = 6, words = "KIND: it isn't of that kind, nor of one under it.")
    static void asOfAKindBesideOrBelowIsKind() {
        refused(KIND, x -> x.as(0, 1), x -> x.as(0, 2), x -> x.as(0, 5), x -> x.as(1, 2), x -> x.as(1, 3),
            x -> x.as(1, 4), x -> x.as(2, 1), x -> x.as(2, 5), x -> x.as(3, 2), x -> x.as(3, 4), x -> x.as(4, 2),
            x -> x.as(4, 3), x -> x.as(5, 1), x -> x.as(5, 3));
    }

    // ---- promise 7

    @Says(promise = 7, words = "VALUE of a PART said in n words.", terms = "VALUE of a PART said in n words: WORD: WORTH.")
    static void aWordIsWorthTheSameHoweverLong() {
        due(value(0, 1, 1, 9, 1), 9);
        due(value(0, 12, 12, 9, 12), 9);
        due(value(0, 12, 12, 0, 12), 0);
    }

    @Says(promise = 7, words = "VALUE of a PART", terms = "NAME: WORTH times n.")
    static void aNameIsWorthMoreAWord() {
        due(value(1, 1, 12, 9, 1), 9);
        due(value(1, 1, 12, 9, 12), 108);
        due(value(1, 1, 12, 0, 12), 0);
    }

    @Says(promise = 7, words = "VALUE of a PART", terms = "LINK: WORTH, if n is above 0, else 0.")
    static void aLinkOf0WordsIsWorthNothing() {
        due(value(2, 1, 1, 9, 0), 0);
        due(value(2, 1, 1, 9, 1), 9);
        due(value(2, 12, 12, 9, 12), 9);
    }

    @Says(promise = 7, words = "VALUE of a PART", terms = "TITLE: as NAME, and 5.")
    static void aTitleIsWorth5More() {
        due(value(3, 1, 12, 9, 1), 14);
        due(value(3, 2, 12, 9, 12), 113);
        due(value(3, 2, 12, 0, 2), 5);
    }

    @Says(promise = 7, words = "VALUE of a PART", terms = {"ECHO: as NAME, but of half of n (cut) if n is above MOST.",
        "Quotients are cut."})
    static void anEchoIsHalvedAboveMostAlone() {
        // All above MOST are twice something, so nothing is ever left to cut; up to MOST odd ones aren't halved.
        due(value(4, 2, 5, 3, 4), 12);
        due(value(4, 2, 5, 3, 5), 15);
        due(value(4, 2, 5, 3, 6), 9);
        due(value(4, 2, 5, 3, 10), 15);
        due(value(4, 12, 12, 9, 24), 108);
        due(value(4, 1, 1, 9, 2), 9);
    }

    @Says(promise = 7, words = "VALUE of a PART", terms = "PAD: 0 less n.")
    static void aPadIsWorthLessAWord() {
        due(value(5, 1, 12, 9, 0), 0);
        due(value(5, 1, 12, 9, 1), -1);
        due(value(5, 12, 12, 9, 12), -12);
    }

    @Says(promise = 7, words = "BEYOND: n isn't one of its LENGTHS")
    static void valueInNoLengthIsBeyond() {
        refused(BEYOND, x -> x.value(0, 2), x -> x.value(0, 4), x -> x.value(0, 7), x -> x.value(0, 0),
            x -> x.value(1, 1), x -> x.value(1, 6), x -> x.value(2, 1), x -> x.value(3, 4), x -> x.value(3, 8),
            x -> x.value(4, 5), x -> x.value(4, 7), x -> x.value(4, 10), x -> x.value(5, 7));
    }

    @Says(promise = 7, words = "BEYOND: n isn't one of its LENGTHS")
    static void valueInFarNumbersIsBeyond() {
        // 35 and -29 would be 3 if only their lowest five bits were looked at.
        refused(BEYOND, x -> x.value(5, -1), x -> x.value(0, 35), x -> x.value(0, -29), x -> x.value(0, 25),
            x -> x.value(0, LOW), x -> x.value(5, LOW), x -> x.value(5, HIGH), x -> x.value(0, 3 + 64));
    }

    @Says(promise = 7, words = "too.")
    static void valueOfNoSuchPartIsBeyond() {
        refused(BEYOND, x -> x.value(6, 0), x -> x.value(-1, 3), x -> x.value(LOW, 3),
            x -> x.value(HIGH, 0));
    }

    private static int value(int kind, int least, int most, int worth, int n) {
        YearWords x = new YearWords();
        x.part(kind, least, most, worth);
        return x.value(0, n);
    }
}
