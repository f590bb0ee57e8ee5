/** What each promise of the document says, one method a promise: ordinary inputs, edges, wrong inputs. */
public final class PromisesTest extends Edge {
    private PromisesTest() {
    }

    private static void ask(int promise) {
        begin("promise " + promise);
    }

    private static YearWords begin(int promise) {
        ask(promise);
        return new YearWords();
    }

    private static YearWords withParts(int promise) {
        ask(promise);
        return withParts();
    }

    public static void main(String[] args) {
        promise1();
        promises2to4();
        promises5to7();
        promises8to12();
        promises13to15();
        promises16to18();
        bestOfSeveral();
        promises19to23();
        promises24to26();
        promises27and28();
        promises29to32();
        promise33();
        promises34and35();
        promise36();
        faults();
        promises37and38();
        promise39();
        promises40to42();
        promises43to45();
        promises46and47();
        farEdges();
        everyWrongNumber();
        Due.end("PromisesTest");
    }

    private static void promise1() {
        YearWords x = begin(1);
        for (int what = 0; what <= 4; what++) {
            due(x.count(what), 0);
        }
        due(x.status(-1), 0);
        due(x.undo(), NONE);
        due(x.tear(), 0);
        for (int s = 0; s < 4; s++) {
            due(x.lays(s), MISSING);
        }
        due(x.wipe(), 0);
    }

    private static void promises2to4() {
        YearWords x = begin(2);
        due(x.part(0, 1, 1, 0), 0);
        due(x.part(5, 12, 12, 9), 1);
        due(x.part(-1, 1, 1, 0), BEYOND);
        due(x.part(6, 1, 1, 0), BEYOND);
        due(x.part(0, 0, 1, 0), BEYOND);
        due(x.part(0, 13, 13, 0), BEYOND);
        due(x.part(0, 5, 4, 0), BEYOND);
        due(x.part(0, 5, 13, 0), BEYOND);
        due(x.part(0, 5, 5, -1), BEYOND);
        due(x.part(0, 5, 5, 10), BEYOND);
        for (int p = 2; p < 16; p++) {
            due(x.part(p % 6, 1, 2, 3), p);
        }
        due(x.part(0, 1, 1, 0), FULL);
        due(x.part(0, 1, 1, 10), BEYOND);
        due(x.count(0), 16);

        x = withParts(3);
        due(x.partOf(3, 0), 3);
        due(x.partOf(3, 1), 3);
        due(x.partOf(3, 2), 8);
        due(x.partOf(3, 3), 4);
        due(x.partOf(0, 4), 1 << 3);
        due(x.partOf(1, 4), 1 << 2 | 1 << 3 | 1 << 4 | 1 << 5);
        due(x.partOf(2, 4), 1 | 1 << 4);
        due(x.partOf(3, 4), 1 << 3 | 1 << 5 | 1 << 7);
        due(x.partOf(4, 4), 1 << 2 | 1 << 3 | 1 << 4 | 1 << 6 | 1 << 8);
        due(x.partOf(5, 4), 127);
        due(x.partOf(6, 0), BEYOND);
        due(x.partOf(-1, 0), BEYOND);
        due(x.partOf(0, -1), BEYOND);
        due(x.partOf(0, 5), BEYOND);
        x.part(4, 12, 12, 1);
        due(x.partOf(6, 4), 1 << 12 | 1 << 24);
        x.part(5, 12, 12, 1);
        due(x.partOf(7, 4), 8191);

        x = withParts(4);
        due(x.set(1, 1, 5), 2);
        due(x.set(1, 1, 6), BEYOND);
        due(x.set(1, 1, 0), BEYOND);
        due(x.set(1, 2, 4), BEYOND);
        due(x.set(1, 2, 13), BEYOND);
        due(x.set(1, 2, 12), 5);
        due(x.set(1, 1, 12), 5);
        due(x.set(1, 3, 9), 2);
        due(x.set(1, 3, 10), BEYOND);
        due(x.set(1, 3, -1), BEYOND);
        due(x.set(1, 0, 1), BEYOND);
        due(x.set(1, 4, 1), BEYOND);
        due(x.set(6, 3, 1), BEYOND);
        due(x.partOf(1, 1), 12);
        due(x.partOf(1, 2), 12);
        due(x.partOf(1, 3), 9);
        due(x.partOf(1, 4), 1 << 12);
    }

    private static void promises5to7() {
        YearWords x = withParts(5);
        due(x.turn(0, 1), 0);
        due(x.partOf(0, 0), 1);
        due(x.partOf(0, 4), 0xF8);
        due(x.turn(0, 6), BEYOND);
        due(x.turn(0, -1), BEYOND);
        due(x.turn(6, 0), BEYOND);
        due(x.turn(0, 1), 1);
        due(x.turn(0, 5), 1);
        due(x.partOf(0, 4), 255);

        x = withParts(6);
        int[] above = {1, 3, 5, 11, 19, 37};
        for (int p = 0; p < 6; p++) {
            for (int kind = 0; kind < 6; kind++) {
                due(x.as(p, kind), (above[p] >> kind & 1) == 1 ? p + 1 : KIND);
            }
        }
        due(x.as(6, 0), BEYOND);
        due(x.as(-1, 9), BEYOND);
        due(x.as(0, 6), BEYOND);
        due(x.as(0, -1), BEYOND);

        x = withParts(7);
        due(x.value(0, 3), 1);
        due(x.value(0, 4), BEYOND);
        due(x.value(1, 5), 10);
        due(x.value(2, 0), 0);
        due(x.value(2, 4), 3);
        due(x.value(2, 5), BEYOND);
        due(x.value(3, 3), 17);
        due(x.value(3, 7), 33);
        due(x.value(3, 8), BEYOND);
        due(x.value(4, 4), 20);
        due(x.value(4, 6), 15);
        due(x.value(4, 8), 20);
        due(x.value(4, 5), BEYOND);
        due(x.value(5, 0), 0);
        due(x.value(5, 2), -2);
        due(x.value(5, 7), BEYOND);
        due(x.value(5, -1), BEYOND);
        due(x.value(0, 3 + 32), BEYOND);
        due(x.value(6, 0), BEYOND);
        due(x.value(0, LOW), BEYOND);
        due(x.value(0, HIGH), BEYOND);
    }

    private static void promises8to12() {
        YearWords x = begin(8);
        for (int t = 0; t < 8; t++) {
            due(x.tale(), t);
            due(x.size(t), 0);
        }
        due(x.tale(), FULL);
        due(x.count(1), 8);

        x = withParts(9);
        x.tale();
        x.tale();
        for (int i = 1; i <= 10; i++) {
            due(x.tell(1, i % 6), i);
        }
        due(x.tell(1, 0), FULL);
        due(x.tell(1, 6), BEYOND);
        due(x.tell(2, 0), BEYOND);
        due(x.tell(-1, 0), BEYOND);
        due(x.tell(0, -1), BEYOND);
        due(x.tell(0, 5), 1);

        ask(11);
        due(x.ith(1, 0), 1);
        due(x.ith(1, 9), 4);
        due(x.ith(1, 10), BEYOND);
        due(x.ith(1, -1), BEYOND);
        due(x.ith(0, 0), 5);
        due(x.ith(0, 1), BEYOND);
        due(x.ith(2, 0), BEYOND);

        ask(10);
        due(x.cut(1), 4);
        due(x.cut(1), 3);
        due(x.cut(0), 5);
        due(x.cut(0), NONE);
        due(x.cut(2), BEYOND);
        due(x.cut(-1), BEYOND);
        due(x.tell(1, 5), 9);
        due(x.ith(1, 8), 5);

        ask(12);
        due(x.size(0), 0);
        due(x.size(1), 9);
        due(x.size(2), BEYOND);
        due(x.size(-1), BEYOND);
    }

    private static void promises13to15() {
        YearWords x = withParts(13);
        tell(x, 1, 4);
        tell(x);
        // NAME 2..5 and ECHO 2, 3, 4, 6, 8
        long[] want = {0, 0, 0, 0, 1, 2, 3, 3, 3, 2, 2, 2, 1, 1, 0};
        for (int n = 0; n < want.length; n++) {
            due(x.ways(0, n), want[n]);
        }
        due(x.ways(0, 120), 0);
        due(x.ways(0, 121), BEYOND);
        due(x.ways(0, -1), BEYOND);
        due(x.ways(2, 0), BEYOND);
        due(x.ways(1, 0), 1);
        due(x.ways(1, 1), 0);

        ask(14);
        due(x.allWays(0), 20);
        due(x.allWays(1), 1);
        due(x.allWays(2), BEYOND);
        due(x.allWays(-1), BEYOND);
        x.part(4, 1, 12, 9);
        tell(x, 6, 6, 6, 6, 6, 6, 6, 6, 6, 6);
        long all = 1;
        for (int i = 0; i < 10; i++) {
            all *= 18;
        }
        due(x.allWays(2), all);
        due(x.ways(2, 10), 1);
        due(x.ways(2, 11), 10);

        ask(15);
        due(x.length(0, 0), 4);
        due(x.length(0, 1), 13);
        due(x.length(0, 2), 0);
        due(x.length(1, 0), 0);
        due(x.length(1, 1), 0);
        due(x.length(1, 2), 0);
        due(x.length(2, 0), 10);
        due(x.length(2, 1), 120);
        due(x.length(2, 2), 0);
        tell(x, 2, 3, 2);
        // 3, 5, 7 with 0, 4, 8
        due(x.length(3, 0), 3);
        due(x.length(3, 1), 15);
        due(x.length(3, 2), 6);
        due(x.length(0, 3), BEYOND);
        due(x.length(0, -1), BEYOND);
        due(x.length(4, 0), BEYOND);
    }

    private static void promises16to18() {
        YearWords x = withParts(16);
        tell(x, 1, 4, 5);
        tell(x);
        // NAME 2 to 5 (2 a word), ECHO 2, 3, 4, 6, 8 (5 a word, once), PAD (-1 a word)
        due(x.best(0, 9, -1), 30);
        due(x.best(0, 9, 0), 5);
        due(x.best(0, 9, 1), 4);
        due(x.best(0, 9, 2), 0);
        due(x.best(0, 9, 3), NONE);
        due(x.best(0, 9, 10), BEYOND);
        due(x.best(0, 9, -2), BEYOND);
        due(x.best(0, 121, -1), BEYOND);
        due(x.best(0, -1, -1), BEYOND);
        due(x.best(2, 0, -1), BEYOND);
        due(x.best(0, 3, -1), NONE);
        due(x.best(0, 20, -1), NONE);
        due(x.best(0, 19, -1), 24);
        due(x.best(1, 0, -1), 0);
        due(x.best(1, 0, 0), NONE);
        due(x.best(1, 1, 0), NONE);

        ask(17);
        due(x.richest(0), 9);
        due(x.richest(1), 0);
        due(x.richest(2), BEYOND);
        due(x.richest(-1), BEYOND);
        x.part(1, 1, 12, 0);
        tell(x, 6, 6);
        due(x.richest(2), 2);

        ask(18);
        tell(x, 0);
        due(x.fills(3, 3), STATE);
        due(x.fills(3, 7), 1);
        due(x.fills(3, 6), 0);
        due(x.fills(3, 9), 4);
        due(x.fills(3, 10), 3);
        due(x.fills(3, 15), 6);
        due(x.fills(3, 16), NONE);
        due(x.fills(3, 2), NONE);
        due(x.fills(3, 121), BEYOND);
        due(x.fills(3, -1), BEYOND);
        due(x.fills(4, 1), BEYOND);
        tell(x, 0, 0, 0, 0, 0, 0, 0, 0, 0, 0);
        due(x.fills(4, 30), FULL);
        due(x.fills(4, 33), FULL);
    }

    private static void bestOfSeveral() {
        YearWords x = begin(16);
        x.part(1, 1, 4, 3);
        tell(x, 0, 0, 0);
        // All SAYINGS in 8 words are worth 24: the first by LENGTHS is 1, 3, 4.
        due(x.best(0, 8, -1), 24);
        due(x.best(0, 8, 0), 1);
        due(x.best(0, 8, 1), 3);
        due(x.best(0, 8, 2), 4);
        x.part(2, 4, 4, 0);
        tell(x, 1, 1);
        due(x.best(1, 4, 0), 0);
        due(x.best(1, 4, 1), 4);
    }

    private static void promises19to23() {
        YearWords x = begin(19);
        due(x.hearer(0), 0);
        due(x.hearer(99), 1);
        due(x.hearer(100), BEYOND);
        due(x.hearer(-1), BEYOND);
        for (int h = 2; h < 10; h++) {
            due(x.hearer(h), h);
        }
        due(x.hearer(5), FULL);
        due(x.hearer(100), BEYOND);
        due(x.count(2), 10);

        ask(20);
        due(x.age(1, 0), 99);
        due(x.age(1, 99), 0);
        due(x.age(1, 100), BEYOND);
        due(x.age(1, -1), BEYOND);
        due(x.age(10, 0), BEYOND);
        due(x.age(-1, 0), BEYOND);

        ask(21);
        due(x.ageOf(1), 99);
        due(x.ageOf(9), 9);
        due(x.ageOf(10), BEYOND);
        due(x.ageOf(-1), BEYOND);

        x = withParts(22);
        tell(x, 0, 2);
        tell(x);
        tell(x, 5);
        due(x.to(0), 0);
        hear(x, 3, 7, 0, 8, 4);
        due(x.to(0), 3);
        due(x.to(1), 4);
        due(x.to(2), 21);
        due(x.to(3), BEYOND);
        due(x.to(-1), BEYOND);

        ask(23);
        due(x.tales(0), 5);
        due(x.tales(2), 6);
        due(x.tales(3), 0);
        due(x.tales(5), BEYOND);
        due(x.tales(-1), BEYOND);
    }

    private static void promises24to26() {
        YearWords x = withParts(24);
        tell(x, 0, 2);
        tell(x, 5);
        hear(x, 3, 7, 0, 97);
        // Of 3 and 7 to the first TALE, 3 and 0 to the second, 7 and 3 are lost: now they're 11 and 7.
        due(x.years(4), 2);
        due(x.ageOf(0), 7);
        due(x.ageOf(1), 11);
        due(x.ageOf(2), 4);
        due(x.ageOf(3), 99);
        due(x.count(4), 4);
        due(x.years(0), BEYOND);
        due(x.years(61), BEYOND);
        due(x.years(-1), BEYOND);
        for (int i = 0; i < 16; i++) {
            x.years(60);
        }
        due(x.count(4), 964);
        due(x.years(36), STATE);
        due(x.years(61), BEYOND);
        due(x.years(35), 0);
        due(x.years(1), STATE);
        due(x.count(4), 999);
        due(x.ageOf(2), 99);

        x = withParts(25);
        tell(x, 0, 2);
        tell(x);
        tell(x, 5);
        hear(x, 3, 4, 8, 0, 99);
        due(x.when(0, 0), 0);
        due(x.when(0, 1), 3);
        due(x.when(0, 2), NONE);
        due(x.when(0, 3), 3);
        due(x.when(1, 3), 0);
        due(x.when(1, 0), NONE);
        due(x.when(3, 0), BEYOND);
        due(x.when(0, 5), BEYOND);
        due(x.when(-1, 0), BEYOND);
        due(x.when(0, -1), BEYOND);

        ask(26);
        due(x.till(0, 0), 1);
        due(x.till(0, 1), 0);
        due(x.till(2, 3), 7);
        due(x.till(2, 1), 3);
        due(x.till(0, 4), 0);
        due(x.till(3, 0), BEYOND);
        due(x.till(0, 5), BEYOND);
        x.part(5, 12, 12, 0);
        tell(x, 6, 6, 6, 6, 6, 6, 6, 6, 6);
        due(x.till(3, 0), 100);
        due(x.till(3, 4), 100);
        x.cut(3);
        due(x.till(3, 4), 0);
        due(x.till(3, 3), 97);
        tell(x, 6, 6, 6, 6, 6, 6, 6, 6, 0);
        due(x.when(4, 3), 3);
        due(x.when(4, 4), 0);
        due(x.till(4, 4), 100);
    }

    private static void promises27and28() {
        YearWords x = withParts(27);
        tell(x, 1, 4, 2);
        tell(x);
        tell(x, 2, 2);
        hear(x, 0, 4, 5, 9, 30);
        // BEST in 9 words: 5, 4, 0
        int[] want = {0, 0, 1, 3, 3};
        for (int h = 0; h < 5; h++) {
            due(x.heard(0, 9, h), want[h]);
        }
        due(x.heard(2, 0, 0), 2);
        due(x.heard(2, 4, 0), 1);
        due(x.heard(1, 0, 0), 0);
        due(x.heard(0, 3, 0), NONE);
        due(x.heard(1, 1, 0), NONE);
        due(x.heard(0, 121, 0), BEYOND);
        due(x.heard(0, -1, 0), BEYOND);
        due(x.heard(3, 0, 0), BEYOND);
        due(x.heard(0, 9, 5), BEYOND);
        due(x.heard(0, 3, -1), BEYOND);

        ask(28);
        // In 9 words: 2 and 3 with the link; 3, 2; 5, 4 and 3, 6 without
        due(x.together(0, 9, 0), 0);
        due(x.together(0, 9, 2), 1);
        due(x.together(0, 9, 4), 2);
        due(x.together(0, 9, 6), 3);
        due(x.together(0, 9, 31), 9);
        due(x.together(0, 3, 0), NONE);
        due(x.together(2, 4, 1), 1);
        due(x.together(2, 0, 1), 2);
        due(x.together(0, 9, 32), BEYOND);
        due(x.together(0, 9, -1), BEYOND);
        due(x.together(0, 121, 0), BEYOND);
        due(x.together(3, 9, 0), BEYOND);
        due(x.together(0, 9, LOW), BEYOND);
    }

    private static void promises29to32() {
        YearWords x = withParts(29);
        // 3; 5 to 8; 5 to 8 and 9 to 12
        tell(x, 0, 1, 2);
        tell(x);
        hear(x, 3, 6, 12, 0, 4);
        int[] want = {1, 3, 3, 0, 0};
        for (int h = 0; h < 5; h++) {
            due(x.pass(0, h), want[h]);
        }
        due(x.pass(1, 3), 0);
        due(x.pass(1, 0), 0);
        due(x.pass(2, 0), BEYOND);
        due(x.pass(0, 5), BEYOND);
        due(x.pass(0, -1), BEYOND);

        ask(30);
        due(x.through(0, 1, 2), 3);
        due(x.through(0, 0, 1), 0);
        due(x.through(0, 1, 0), 1);
        due(x.through(0, 0, 0), 1);
        due(x.through(0, 3, 0), 0);
        due(x.through(2, 0, 0), BEYOND);
        due(x.through(0, 5, 0), BEYOND);
        due(x.through(0, 0, 5), BEYOND);

        ask(31);
        due(x.middle(0, 1, 0), 2);
        due(x.middle(0, 1, 2), 0);
        due(x.middle(0, 3, 4), 0);
        due(x.middle(0, 0, 1), 2);
        due(x.middle(0, 1, 1), BEYOND);
        due(x.middle(0, 1, 5), BEYOND);
        due(x.middle(0, -1, 1), BEYOND);
        due(x.middle(2, 0, 1), BEYOND);
        x = withParts(31);
        tell(x, 0, 1, 2);
        hear(x, 6, 12);
        due(x.middle(0, 0, 1), NONE);
        hear(x, 8, 10);
        due(x.middle(0, 0, 1), 2);
        due(x.middle(0, 2, 3), 0);
        x.age(0, 3);
        due(x.middle(0, 2, 3), 1);

        x = withParts(32);
        tell(x, 0, 1, 2);
        due(x.chain(0), NONE);
        due(x.chain(1), BEYOND);
        due(x.chain(-1), BEYOND);
        hear(x, 12, 8);
        due(x.chain(0), 3);
        hear(x, 3);
        due(x.chain(0), 1);
        hear(x, 6);
        due(x.chain(0), 0);
    }

    private static void promise33() {
        YearWords x = withParts(33);
        tell(x, 5, 5, 5);
        tell(x, 0);
        due(x.spread(0, 5), NONE);
        due(x.spread(2, 5), BEYOND);
        due(x.spread(0, -1), BEYOND);
        due(x.spread(0, 100), BEYOND);
        // Told on against the order of numbers: 10 to 7 to 4 to 1.
        hear(x, 10, 1, 4, 7, 19, 14);
        due(x.spread(0, 0), 1);
        due(x.spread(0, 2), 1);
        due(x.spread(0, 3), 15);
        due(x.spread(0, 4), 47);
        due(x.spread(0, 99), 47);
        due(x.spread(1, 99), 1);
        x.age(4, 3);
        due(x.spread(1, 6), 1);
        due(x.spread(1, 7), 17);
    }

    private static void promises34and35() {
        YearWords x = begin(34);
        due(x.feed(0x74616c65, 4), 4);
        due(x.book(), 1);
        due(x.feed(0x7b74616c, 3), 3);
        due(x.feed(0xff65, 1), 4);
        due(x.book(), 1);
        due(x.feed(0, 0), BEYOND);
        due(x.feed(0, 5), BEYOND);
        due(x.feed(0, -1), BEYOND);
        for (int i = 1; i <= 29; i++) {
            due(x.feed(i, 4), 4 * i);
        }
        due(x.feed(1, 3), 119);
        due(x.feed(1, 2), FULL);
        due(x.feed(1, 9), BEYOND);
        due(x.count(3), 119);
        due(x.feed(1, 1), 120);
        due(x.feed(1, 1), FULL);

        ask(35);
        due(x.wipe(), 120);
        due(x.wipe(), 0);
        due(x.count(3), 0);
        due(x.feed(1, 1), 1);
    }

    private static void promise36() {
        YearWords x = begin(36);
        due(book(x, "echo 3 to 5 worth 7; pad 2; tale of 1 0 1;hearer 99;tale"), 5);
        due(x.count(3), 0);
        due(x.partOf(0, 0), 4);
        due(x.partOf(0, 1), 3);
        due(x.partOf(0, 2), 5);
        due(x.partOf(0, 3), 7);
        due(x.partOf(1, 0), 5);
        due(x.partOf(1, 2), 2);
        due(x.partOf(1, 3), 1);
        due(x.size(0), 3);
        due(x.ith(0, 1), 0);
        due(x.size(1), 0);
        due(x.ageOf(0), 99);
        due(book(x, "word1;name2;link3;title4;echo5;pad6to7worth0"), 6);
        for (int kind = 0; kind < 6; kind++) {
            due(x.partOf(2 + kind, 0), kind);
            due(x.partOf(2 + kind, 1), 1 + kind);
        }
        due(x.partOf(7, 2), 7);
        due(x.partOf(7, 3), 0);
        due(book(x, "  tale of 7 0007 0 1 2 3 4 5 6 7  "), 1);
        due(x.size(2), 10);
        due(x.ith(2, 1), 7);
        due(book(x, "hearer 000000000000000000099;hearer 0"), 2);
        due(x.ageOf(1), 99);
        due(x.status(-1), 0);
    }

    private static void fault(YearWords x, String text, int place) {
        int parts = x.count(0);
        int tales = x.count(1);
        int hearers = x.count(2);
        due(book(x, text), -1 - place);
        due(x.count(0), parts);
        due(x.count(1), tales);
        due(x.count(2), hearers);
        due(x.count(3), 0);
        due(x.status(-1), 0);
    }

    private static void faults() {
        YearWords x = begin(36);
        fault(new YearWords(), "", 0);
        fault(new YearWords(), "   ", 3);
        fault(new YearWords(), ";", 0);
        fault(new YearWords(), "tale;", 5);
        fault(new YearWords(), "tale; ", 6);
        fault(new YearWords(), "tale;;", 5);
        fault(new YearWords(), "tale tale", 5);
        fault(new YearWords(), "tale1", 4);
        fault(new YearWords(), "tales", 0);
        fault(new YearWords(), "Tale", 0);
        fault(new YearWords(), "tale\tof", 4);
        fault(new YearWords(), "tale of", 7);
        fault(new YearWords(), "tale of 0", 8);
        fault(new YearWords(), "word", 4);
        fault(new YearWords(), "word 0", 5);
        fault(new YearWords(), "word 13", 5);
        fault(new YearWords(), "word 1000", 5);
        fault(new YearWords(), "word 4294967297", 5);
        fault(new YearWords(), "word to", 5);
        fault(new YearWords(), "word 3 to", 9);
        fault(new YearWords(), "word 3 to 2", 10);
        fault(new YearWords(), "word 3 to 13", 10);
        fault(new YearWords(), "word 3 worth", 12);
        fault(new YearWords(), "word 3 worth 10", 13);
        fault(new YearWords(), "word 3 worth 1 to 4", 15);
        fault(new YearWords(), "word 3 4", 7);
        fault(new YearWords(), "word 3 of", 7);
        fault(new YearWords(), "word 3;tale of 0 1", 17);
        fault(new YearWords(), "word 3;tale of 0 0 0 0 0 0 0 0 0 0 0", 35);
        fault(new YearWords(), "word 3;tale of;word 4", 14);
        fault(new YearWords(), "tale of 0;word 3", 8);
        fault(new YearWords(), "hearer", 6);
        fault(new YearWords(), "hearer 100", 7);
        fault(new YearWords(), "hearer x", 7);
        fault(new YearWords(), "hearer 5 5", 9);
        fault(new YearWords(), "hearer 5; " + (char) 200, 10);
        fault(new YearWords(), "hearer 5." + "tale", 8);
        fault(new YearWords(), "to 3", 0);
        fault(new YearWords(), "5", 0);
        fault(new YearWords(), "xale", 0);
        fault(new YearWords(), "tale" + (char) 0, 4);
        fault(new YearWords(), (char) 0 + "tale", 0);
        fault(new YearWords(), "tale z", 5);
        fault(new YearWords(), "talez", 0);
        fault(new YearWords(), "tale`", 4);
        fault(new YearWords(), "tale{", 4);
        fault(new YearWords(), "tale of/", 7);
        fault(new YearWords(), "tale of:", 7);
        due(book(x, "tale;tale;tale;tale;tale;tale;tale;tale"), 8);
        fault(x, "hearer 1;tale of 99", 9);
        due(book(x, "pad 1;pad 1;pad 1;pad 1;pad 1;pad 1;pad 1;pad 1;pad 1;pad 1"), 10);
        fault(x, "pad 1;pad 1;pad 1;pad 1;pad 1;pad 1;pad 99", 36);
        due(book(x, "hearer1;hearer2;hearer3;hearer4;hearer5;hearer6;hearer7;hearer8;hearer9"), 9);
        fault(x, "hearer 1;hearer 100", 9);
        due(book(x, "hearer 1"), 1);
        fault(x, "hearer", 0);
    }

    private static void promises37and38() {
        YearWords x = begin(37);
        due(x.sheet(0, 8, 40), 40);
        due(x.sheet(3, 64, 0), 0);
        due(x.sheet(4, 8, 1), BEYOND);
        due(x.sheet(-1, 8, -1), BEYOND);
        due(x.sheet(0, 32, -1), BEYOND);
        due(x.sheet(0, 8, -1), SIZE);
        due(x.sheet(0, 0, -1), SIZE);
        due(x.sheet(0, 8, 41), BEYOND);
        due(x.sheet(0, 0, 41), BEYOND);
        due(x.write(0, 39, 5), 0);
        due(x.sheet(0, 16, 40), 40);
        due(x.write(0, 39, 5), 0);
        due(x.sheet(0, 0, 40), 0);
        due(x.write(0, 0, 5), MISSING);

        x = begin(38);
        x.sheet(0, 8, 2);
        x.sheet(1, 16, 2);
        x.sheet(2, 64, 2);
        due(x.write(0, 1, 0x1234567FL), 0);
        due(x.write(0, 1, 0x180), 0x7F);
        due(x.write(0, 1, 0), -128);
        due(x.write(1, 1, 0x12347FFFL), 0);
        due(x.write(1, 1, 0x18000L), 0x7FFF);
        due(x.write(1, 1, 0), -32768);
        due(x.write(2, 1, Long.MIN_VALUE), 0);
        due(x.write(2, 1, BEYOND), Long.MIN_VALUE);
        due(x.write(2, 1, 7), BEYOND);
        due(x.status(-1), 0);
        due(x.write(2, 0, 7), 0);
        due(x.write(3, 9, 7), MISSING);
        due(x.write(4, 0, 7), BEYOND);
        due(x.write(-1, 0, 7), BEYOND);
        due(x.write(2, 2, 7), BEYOND);
        due(x.write(2, -1, 7), BEYOND);
    }

    private static void promise39() {
        YearWords x = begin(39);
        x.sheet(0, 8, 5);
        x.sheet(1, 8, 3);
        x.sheet(2, 16, 5);
        for (int i = 0; i < 5; i++) {
            x.write(0, i, 10 + i);
        }
        due(x.copy(0, 3, 1, 1, 2), 2);
        due(x.write(1, 0, 0), 0);
        due(x.write(1, 1, 0), 13);
        due(x.write(1, 2, 0), 14);
        due(x.copy(0, 0, 0, 1, 4), 4);
        for (int i = 0; i < 5; i++) {
            due(x.write(0, i, 20 + i), i == 0 ? 10 : 9 + i);
        }
        due(x.copy(0, 1, 0, 0, 4), 4);
        for (int i = 0; i < 5; i++) {
            due(x.write(0, i, 0), i == 4 ? 24 : 21 + i);
        }
        due(x.copy(4, 0, 0, 0, 0), BEYOND);
        due(x.copy(3, 0, 4, 0, 0), BEYOND);
        due(x.copy(3, 0, 0, 0, 0), MISSING);
        due(x.copy(0, -1, 3, 0, 0), MISSING);
        due(x.copy(0, -1, 2, 0, 0), KIND);
        due(x.copy(0, 0, 1, 0, 4), BEYOND);
        due(x.copy(1, 0, 0, 0, 4), BEYOND);
        due(x.copy(0, -1, 1, 0, 1), BEYOND);
        due(x.copy(0, 0, 1, -1, 1), BEYOND);
        due(x.copy(0, 0, 1, 0, -1), BEYOND);
        due(x.copy(0, 5, 1, 3, 0), 0);
        due(x.copy(0, 6, 1, 0, 0), BEYOND);
        due(x.copy(0, 0, 1, 4, 0), BEYOND);
        due(x.copy(0, HIGH, 1, 0, 1), BEYOND);
        due(x.copy(0, 0, 1, 1, HIGH), BEYOND);
        due(x.copy(0, LOW, 1, LOW, LOW), BEYOND);
    }

    private static void promises40to42() {
        YearWords x = withParts(40);
        hear(x, 1, 2, 3, 4);
        x.sheet(0, 64, 3);
        x.write(0, 0, 99);
        x.write(0, 1, 100);
        x.write(0, 2, (1L << 32) + 5);
        due(x.lays(0), 1);
        due(x.ageOf(0), 99);
        due(x.ageOf(1), 2);
        due(x.ageOf(2), 3);
        due(x.ageOf(3), 4);
        x.sheet(0, 8, 40);
        x.write(0, 1, -1);
        due(x.lays(0), 3);
        due(x.ageOf(0), 0);
        due(x.ageOf(1), 2);
        due(x.lays(1), MISSING);
        due(x.lays(4), BEYOND);
        due(x.lays(-1), BEYOND);

        x = withParts(41);
        tell(x, 1, 4, 5);
        x.sheet(0, 8, 5);
        x.write(0, 3, 77);
        due(x.say(0, 0, 9), 3);
        due(x.write(0, 0, 0), 5);
        due(x.write(0, 1, 0), 4);
        due(x.write(0, 2, 0), 0);
        due(x.write(0, 3, 0), 77);
        x.sheet(1, 16, 2);
        due(x.say(1, 0, 8), 2);
        due(x.write(1, 0, 0), 4);
        due(x.say(0, 0, 3), NONE);
        due(x.say(0, 1, 3), BEYOND);
        due(x.say(0, 0, 121), BEYOND);
        due(x.say(0, 0, -1), BEYOND);
        due(x.say(2, 9, 3), MISSING);
        due(x.say(4, 9, 3), BEYOND);

        x = withParts(42);
        tell(x, 1, 4);
        tell(x);
        hear(x, 9, 8, 0);
        x.sheet(0, 64, 2);
        due(x.read(0, 0, 0), 1);
        x.write(0, 0, 5);
        due(x.read(0, 0, 0), 2);
        x.write(0, 1, 4);
        due(x.read(0, 0, 0), 0);
        due(x.read(0, 0, 1), 41);
        x.write(0, 0, (1L << 32) + 5);
        due(x.read(0, 0, 0), 1);
        x.write(0, 0, -27);
        due(x.read(0, 0, 0), 1);
        x.sheet(0, 8, 1);
        x.write(0, 0, 5);
        due(x.read(0, 0, 0), 2);
        x.sheet(0, 8, 40);
        x.write(0, 0, 5);
        x.write(0, 1, 4);
        due(x.read(0, 0, 0), 3);
        due(x.read(0, 1, 0), 1);
        x.sheet(0, 8, 0);
        due(x.read(0, 0, 0), 1);
        due(x.read(0, 1, 2), 0);
        due(x.read(0, 1, 0), 41);
        due(x.read(1, 9, 9), MISSING);
        due(x.read(4, 0, 0), BEYOND);
        due(x.read(0, 2, 0), BEYOND);
        due(x.read(0, 0, 3), BEYOND);
        due(x.read(0, 0, -1), BEYOND);
    }

    private static void promises43to45() {
        YearWords x = withParts(43);
        tell(x, 1, 4);
        hear(x, 9, 98);
        x.years(1);
        put(x, "tale");
        x.sheet(0, 8, 1);
        due(x.image(), 1);

        ask(44);
        x.set(1, 1, 5);
        x.set(1, 2, 12);
        x.set(1, 3, 9);
        x.turn(0, 5);
        x.part(0, 1, 1, 1);
        x.cut(0);
        x.tell(0, 5);
        x.tell(0, 5);
        x.tale();
        x.age(1, 3);
        x.hearer(7);
        x.years(60);
        x.feed(';', 1);
        x.write(0, 0, 5);
        x.size(-1);
        for (int again = 0; again < 2; again++) {
            due(x.undo(), 6);
            due(x.partOf(1, 1), 2);
            due(x.partOf(1, 2), 5);
            due(x.partOf(1, 3), 2);
            due(x.partOf(0, 0), 0);
            due(x.size(0), 2);
            due(x.ith(0, 1), 4);
            due(x.count(0), 6);
            due(x.count(1), 1);
            due(x.count(2), 2);
            due(x.count(4), 1);
            due(x.ageOf(0), 10);
            due(x.ageOf(1), 99);
            due(x.count(3), 5);
            due(x.write(0, 0, 5), 5);
            due(x.status(-1), 1);
            x.tell(0, 3);
            x.tale();
            x.age(0, 1);
        }
        due(x.image(), 1);
        x.age(0, 2);
        due(x.undo(), 6);
        due(x.ageOf(0), 1);

        ask(45);
        due(x.tear(), 1);
        due(x.tear(), 0);
        due(x.undo(), NONE);
        due(x.ageOf(0), 1);
        due(x.image(), 1);
        due(x.undo(), 6);
    }

    private static void promises46and47() {
        YearWords x = withParts(46);
        tell(x, 1);
        tell(x, 1);
        hear(x, 9, 98, 4);
        x.years(7);
        put(x, "abcd");
        due(x.count(0), 6);
        due(x.count(1), 2);
        due(x.count(2), 3);
        due(x.count(3), 4);
        due(x.count(4), 7);
        due(x.count(5), BEYOND);
        due(x.count(-1), BEYOND);

        x = withParts(47);
        due(x.status(-1), 0);
        x.image();
        tell(x);
        due(x.size(9), BEYOND);
        due(x.ways(9, 0), BEYOND);
        due(x.status(7), BEYOND);
        due(x.status(-2), BEYOND);
        for (int i = 0; i < 10; i++) {
            x.tell(0, 0);
        }
        due(x.tell(0, 0), FULL);
        due(x.as(0, 1), KIND);
        due(x.chain(0), NONE);
        due(x.spread(0, 0), NONE);
        x.tale();
        due(x.fills(1, 0), STATE);
        due(x.write(0, 0, 0), MISSING);
        due(x.sheet(0, 8, -1), SIZE);
        x.undo();
        int[] want = {4, 1, 1, 2, 1, 1, 1};
        for (int which = 0; which < 7; which++) {
            due(x.status(which), want[which]);
        }
        due(x.status(-1), 11);
    }

    /** The greatest and the least that the document allows, where nothing above asks for them. */
    private static void farEdges() {
        YearWords x = begin(4);
        x.part(4, 12, 12, 3);
        due(x.set(0, 3, 0), 3);
        due(x.set(0, 3, 2), 0);
        ask(7);
        due(x.value(0, 24), 24);
        due(x.value(0, 25), BEYOND);
        tell(x, 0, 0);
        ask(13);
        due(x.ways(0, 24), 1);
        due(x.ways(0, 36), 2);
        due(x.ways(0, 48), 1);
        ask(16);
        due(x.best(0, 48, -1), 48);
        due(x.best(0, 36, 0), 12);
        due(x.best(0, 36, 1), 24);
        ask(18);
        due(x.fills(0, 72), 0);
        x.part(5, 3, 3, 0);
        tell(x, 0, 1);
        due(x.fills(1, 28), 1);
        ask(28);
        hear(x, 24, 23);
        due(x.together(0, 48, 3), 1);
        due(x.together(0, 36, 3), 2);
        ask(5);
        due(x.turn(0, 0), 4);
        due(x.partOf(0, 4), 1 << 12);
        ask(41);
        tell(x);
        x.sheet(0, 8, 1);
        due(x.say(0, 2, 0), 0);
        tell(x, 1);
        x.write(0, 0, 9);
        due(x.say(0, 3, 0), 1);
        due(x.write(0, 0, 0), 0);

        x = begin(25);
        x.part(0, 11, 11, 0);
        tell(x, 0, 0, 0, 0, 0, 0, 0, 0, 0);
        hear(x, 0, 99);
        due(x.when(0, 0), 99);
        due(x.when(0, 1), 0);
        ask(26);
        due(x.till(0, 1), 100);
        x.part(5, 12, 12, 0);
        tell(x, 1, 1, 1, 1, 1, 1, 1, 1);
        due(x.till(1, 0), 97);

        x = begin(13);
        x.part(5, 12, 12, 0);
        x.part(0, 12, 12, 9);
        tell(x, 0, 0, 0, 0, 0, 0, 0, 0, 0, 0);
        tell(x, 1, 1, 1, 1, 1, 1, 1, 1, 1, 1);
        due(x.ways(0, 1), 10);
        due(x.ways(0, 2), 55);
        due(x.ways(1, 120), 1);
        ask(14);
        x.cut(0);
        due(x.allWays(0), 10604499373L);
        ask(15);
        due(x.length(1, 0), 120);
        due(x.length(1, 1), 120);
        due(x.length(1, 2), 0);
        ask(16);
        x.tell(0, 0);
        due(x.best(0, 120, -1), -120);
        due(x.best(0, 13, 8), 1);
        due(x.best(0, 13, 9), 12);
        due(x.best(1, 120, -1), 90);
        ask(18);
        x.cut(0);
        x.cut(1);
        due(x.fills(1, 108), STATE);
        due(x.fills(1, 109), 0);
        due(x.fills(1, 120), 0);
        due(x.fills(0, 120), 0);

        x = withParts(32);
        tell(x, 0, 1, 2);
        hear(x, 3, 12);
        due(x.chain(0), 0);

        x = withParts(33);
        tell(x, 5, 5, 5);
        hear(x, 10, 1, 4, 7);
        due(x.spread(0, 3), 15);

        x = withParts(44);
        for (int t = 0; t < 8; t++) {
            tell(x, t % 6, 5, 4, 3, 2, 1, 0, 1, 2, t % 5);
        }
        x.image();
        for (int t = 0; t < 8; t++) {
            x.cut(t);
            x.tell(t, 5);
        }
        x.undo();
        for (int t = 0; t < 8; t++) {
            due(x.ith(t, 9), t % 5);
        }

        x = begin(39);
        x.sheet(0, 16, 5);
        x.sheet(1, 16, 5);
        due(x.copy(0, 4, 1, 0, 2), BEYOND);
        due(x.copy(0, 0, 1, 4, 2), BEYOND);
        due(x.copy(0, 0, 1, 0, 5), 5);
        due(x.copy(0, 4, 1, 4, 1), 1);

        x = begin(42);
        x.part(0, 3, 3, 0);
        for (int t = 0; t < 2; t++) {
            tell(x, 0, 0);
        }
        hear(x, 9);
        x.sheet(0, 8, 3);
        for (int i = 0; i < 3; i++) {
            x.write(0, i, 3);
        }
        x.cut(1);
        due(x.read(0, 0, 0), 3);
        due(x.read(0, 1, 0), 2);
    }

    /** Far numbers everywhere: nothing is thrown, and each is answered by BEYOND. */
    private static void everyWrongNumber() {
        YearWords x = withParts(0);
        tell(x, 1, 4);
        hear(x, 9);
        x.sheet(0, 8, 3);
        for (int far : new int[] {LOW, LOW + 1, HIGH, HIGH - 1, -2, 1000}) {
            due(x.part(far, far, far, far), BEYOND);
            due(x.partOf(far, far), BEYOND);
            due(x.set(0, 1, far), BEYOND);
            due(x.turn(0, far), BEYOND);
            due(x.as(far, 0), BEYOND);
            due(x.value(1, far), BEYOND);
            due(x.tell(0, far), BEYOND);
            due(x.ith(0, far), BEYOND);
            due(x.ways(0, far), BEYOND);
            due(x.length(0, far), BEYOND);
            due(x.best(0, far, far), BEYOND);
            due(x.fills(0, far), BEYOND);
            due(x.hearer(far), BEYOND);
            due(x.age(0, far), BEYOND);
            due(x.years(far), BEYOND);
            due(x.heard(0, far, 0), BEYOND);
            due(x.together(0, 5, far), BEYOND);
            due(x.middle(0, 0, far), BEYOND);
            due(x.spread(0, far), BEYOND);
            due(x.feed(far, far), BEYOND);
            due(x.sheet(far, 8, 1), BEYOND);
            due(x.sheet(0, far, 1), BEYOND);
            due(x.sheet(0, 8, far), far < 0 ? SIZE : BEYOND);
            due(x.write(0, far, 1), BEYOND);
            due(x.copy(0, far, 0, 0, 1), BEYOND);
            due(x.copy(0, 0, 0, far, 1), BEYOND);
            due(x.copy(0, 1, 0, 1, far), BEYOND);
            due(x.count(far), BEYOND);
            due(x.status(far), BEYOND);
        }
    }
}
