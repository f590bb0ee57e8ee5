import java.util.ArrayList;
import java.util.List;

/**
 * What the tests of promises share: objects to ask, and what a refused call must leave as it was.
 * They stand below this class to call it all by its plain name.
 */
class Edge {
    static final int BEYOND = -1000000001;
    static final int FULL = -1000000002;
    static final int KIND = -1000000003;
    static final int NONE = -1000000004;
    static final int STATE = -1000000005;
    static final int MISSING = -1000000006;
    static final int SIZE = -1000000007;
    static final int LOW = Integer.MIN_VALUE;
    static final int HIGH = Integer.MAX_VALUE;

    private static String test = "";
    private static int row = 0;

    interface Act {
        long on(YearWords x);
    }

    interface Making {
        YearWords make();
    }

    static void begin(String name) {
        test = name;
        row = 0;
    }

    static void due(long got, long want) {
        row++;
        Due.is(test + ", row " + row, got, want);
    }

    /** Each act is answered by a finding that is counted; nothing else changes, as a twin without the act shows. */
    static void refused(long finding, Making making, Act... acts) {
        for (Act act : acts) {
            YearWords x = making.make();
            YearWords twin = making.make();
            due(act.on(x), finding);
            for (int f = 0; f < 7; f++) {
                Due.is(test + ", status " + f + " behind row " + row, x.status(f) - twin.status(f),
                    BEYOND - f == finding ? 1 : 0);
            }
            Due.holds(test + ", nothing changed by row " + row, footprint(x).equals(footprint(twin)));
        }
    }

    static void refused(long finding, Act... acts) {
        refused(finding, Edge::rich, acts);
    }

    /** All that can be asked of an object; it is used up by that. */
    private static List<Long> footprint(YearWords x) {
        List<Long> all = new ArrayList<>();
        addStock(x, all);
        for (int s = 0; s < 4; s++) {
            long was = 0;
            for (int i = 0; i < 41 && was != BEYOND && was != MISSING; i++) {
                was = x.write(s, i, 0);
                all.add(was);
            }
        }
        all.add((long) x.count(3));
        all.add((long) x.book());
        addStock(x, all);
        all.add((long) x.undo());
        addStock(x, all);
        return all;
    }

    private static void addStock(YearWords x, List<Long> all) {
        for (int p = 0; p < x.count(0); p++) {
            for (int what = 0; what < 4; what++) {
                all.add((long) x.partOf(p, what));
            }
        }
        for (int t = 0; t < x.count(1); t++) {
            all.add((long) x.size(t));
            for (int i = 0; i < x.size(t); i++) {
                all.add((long) x.ith(t, i));
            }
        }
        for (int h = 0; h < x.count(2); h++) {
            all.add((long) x.ageOf(h));
        }
        all.add((long) x.count(4));
    }

    /** LENGTHS: WORD 3; NAME 2 to 5; LINK 0, 4; TITLE 3, 5, 7; ECHO 2, 3, 4, 6, 8; PAD 0 to 6. Worth 1 to 6. */
    static YearWords withParts() {
        YearWords x = new YearWords();
        x.part(0, 3, 7, 1);
        x.part(1, 2, 5, 2);
        x.part(2, 4, 6, 3);
        x.part(3, 3, 8, 4);
        x.part(4, 2, 4, 5);
        x.part(5, 3, 6, 6);
        return x;
    }

    /** TALES: NAME and ECHO (4 to 13 words); an empty one; WORD and LINK (3, 7). HEARERS of 9, 4, 0 and 99. */
    static YearWords rich() {
        YearWords x = withParts();
        tell(x, 1, 4);
        tell(x);
        tell(x, 0, 2);
        x.years(1);
        hear(x, 9, 4, 0, 98);
        sheetOf(x, 0, 8, 5, 4, 7);
        x.sheet(1, 16, 2);
        x.sheet(2, 64, 2);
        x.image();
        x.age(3, 99);
        put(x, "hearer 7");
        return x;
    }

    static int tell(YearWords x, int... parts) {
        int t = x.tale();
        for (int p : parts) {
            x.tell(t, p);
        }
        return t;
    }

    /** A new TALE that has one PART so many times. */
    static int tellTimes(YearWords x, int part, int times) {
        int t = x.tale();
        for (int i = 0; i < times; i++) {
            x.tell(t, part);
        }
        return t;
    }

    static void hear(YearWords x, int... ages) {
        for (int a : ages) {
            x.hearer(a);
        }
    }

    static void sheetOf(YearWords x, int s, int bits, long... numbers) {
        x.sheet(s, bits, numbers.length);
        for (int i = 0; i < numbers.length; i++) {
            x.write(s, i, numbers[i]);
        }
    }

    /** A text onto THE TAPE. */
    static void put(YearWords x, String text) {
        for (int i = 0; i < text.length(); i++) {
            x.feed(text.charAt(i), 1);
        }
    }

    static int book(YearWords x, String text) {
        put(x, text);
        return x.book();
    }

    /** A set of numbers, by bits. */
    static int setOf(int... numbers) {
        int set = 0;
        for (int n : numbers) {
            set |= 1 << n;
        }
        return set;
    }
}
