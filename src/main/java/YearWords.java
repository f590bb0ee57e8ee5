/** As many words as he's years: parts, tales of them, and those who hear them. */
public final class YearWords {
    private static final int BEYOND = -1000000001;
    private static final int FULL = -1000000002;
    private static final int KIND = -1000000003;
    private static final int NONE = -1000000004;
    private static final int STATE = -1000000005;
    private static final int MISSING = -1000000006;
    private static final int SIZE = -1000000007;
    private static final int FINDINGS = 7;

    private static final int WORD = 0;
    private static final int NAME = 1;
    private static final int LINK = 2;
    private static final int TITLE = 3;
    private static final int ECHO = 4;
    private static final int PAD = 5;
    private static final int KINDS = PAD + 1;
    /** The kind that each kind stands under; WORD stands under none. */
    private static final int[] UNDER = {-1, WORD, WORD, NAME, NAME, LINK};

    private static final int MOST_PARTS = 16;
    private static final int MOST_TALES = 8;
    private static final int MOST_TOLD = 10;
    private static final int MOST_HEARERS = 10;
    private static final int MOST_LENGTH = 12;
    private static final int MOST_WORTH = 9;
    private static final int MOST_WORDS = 120;
    private static final int MOST_AGE = 99;
    private static final int MOST_YEAR = 999;
    private static final int MOST_YEARS = 60;
    private static final int MOST_WAIT = 99;
    private static final int MOST_BYTES = 120;
    private static final int MOST_NUMBER = 999;
    private static final int SHEETS = 4;
    private static final int MOST_NUMBERS = 40;
    private static final int NOT_AGE_WORDS = 41;

    /** The greatest LENGTH there is: an ECHO of 12, said twice. */
    private static final int LONGEST = 24;
    /** How many numbers of words there are, 0 among them. */
    private static final int ROW = MOST_WORDS + 1;
    /** Stands for a VALUE where there is no SAYING; far below every VALUE. */
    private static final int UNSAID = -1000000000;
    /** Every second number from 0 on, as a set. */
    private static final int EVEN = 0x1555555;

    private final Stock now;
    private final Stock kept;
    private boolean isKept;
    private final Sayings sayings;
    private final Tape tape;
    private final Reading reading;
    private final Sheet[] sheets;
    private final int[] findings;

    public YearWords() {
        now = new Stock();
        kept = new Stock();
        isKept = false;
        sayings = new Sayings(now);
        tape = new Tape();
        reading = new Reading(tape, now);
        sheets = new Sheet[SHEETS];
        for (int s = 0; s < SHEETS; s++) {
            sheets[s] = new Sheet();
        }
        findings = new int[FINDINGS];
    }

    // ---- parts

    public int part(int kind, int least, int most, int worth) {
        if (!isIn(kind, 0, KINDS - 1) || !isIn(least, 1, MOST_LENGTH)
                || !isIn(most, least, MOST_LENGTH) || !isIn(worth, 0, MOST_WORTH)) {
            return found(BEYOND);
        }
        if (now.parts >= MOST_PARTS) {
            return found(FULL);
        }
        return now.addPart(kind, least, most, worth);
    }

    public int partOf(int part, int what) {
        if (!now.hasPart(part)) {
            return found(BEYOND);
        }
        switch (what) {
            case 0:
                return now.kinds[part];
            case 1:
                return now.leasts[part];
            case 2:
                return now.mosts[part];
            case 3:
                return now.worths[part];
            case 4:
                return now.lengthsOf(part);
            default:
                return found(BEYOND);
        }
    }

    public int set(int part, int what, int v) {
        if (!now.hasPart(part)) {
            return found(BEYOND);
        }
        switch (what) {
            case 1:
                return isIn(v, 1, now.mosts[part]) ? swap(now.leasts, part, v) : found(BEYOND);
            case 2:
                return isIn(v, now.leasts[part], MOST_LENGTH) ? swap(now.mosts, part, v) : found(BEYOND);
            case 3:
                return isIn(v, 0, MOST_WORTH) ? swap(now.worths, part, v) : found(BEYOND);
            default:
                return found(BEYOND);
        }
    }

    public int turn(int part, int kind) {
        if (!now.hasPart(part) || !isIn(kind, 0, KINDS - 1)) {
            return found(BEYOND);
        }
        return swap(now.kinds, part, kind);
    }

    public int as(int part, int kind) {
        if (!now.hasPart(part) || !isIn(kind, 0, KINDS - 1)) {
            return found(BEYOND);
        }
        return isUnder(now.kinds[part], kind) ? now.worths[part] : found(KIND);
    }

    public int value(int part, int n) {
        if (!now.hasPart(part) || !isLength(now.lengthsOf(part), n)) {
            return found(BEYOND);
        }
        return now.valueOf(part, n);
    }

    // ---- tales

    public int tale() {
        return now.tales >= MOST_TALES ? found(FULL) : now.addTale();
    }

    public int tell(int tale, int part) {
        if (!now.hasTale(tale) || !now.hasPart(part)) {
            return found(BEYOND);
        }
        return now.sizes[tale] >= MOST_TOLD ? found(FULL) : now.addTold(tale, part);
    }

    public int cut(int tale) {
        if (!now.hasTale(tale)) {
            return found(BEYOND);
        }
        return now.sizes[tale] == 0 ? found(NONE) : now.dropTold(tale);
    }

    public int ith(int tale, int i) {
        if (!now.hasTale(tale) || !isIn(i, 0, now.sizes[tale] - 1)) {
            return found(BEYOND);
        }
        return now.toldAt(tale, i);
    }

    public int size(int tale) {
        return now.hasTale(tale) ? now.sizes[tale] : found(BEYOND);
    }

    public long ways(int tale, int n) {
        if (!now.hasTale(tale) || !isIn(n, 0, MOST_WORDS)) {
            return found(BEYOND);
        }
        return sayings.waysIn(tale, n);
    }

    public long allWays(int tale) {
        return now.hasTale(tale) ? sayings.waysInAll(tale) : found(BEYOND);
    }

    public int length(int tale, int what) {
        if (!now.hasTale(tale) || !isIn(what, 0, 2)) {
            return found(BEYOND);
        }
        sayings.spanWords(tale);
        int fewest = sayings.fewestWords();
        int most = sayings.mostWords();
        if (fewest > most) {
            return found(NONE);
        }
        if (what == 0) {
            return fewest;
        }
        return what == 1 ? most : sayings.gapsBetween(fewest, most);
    }

    public int best(int tale, int n, int what) {
        if (!now.hasTale(tale) || !isIn(n, 0, MOST_WORDS) || !isIn(what, -1, MOST_TOLD - 1)) {
            return found(BEYOND);
        }
        int most = sayings.findBest(tale, n);
        if (most == UNSAID || what >= now.sizes[tale]) {
            return found(NONE);
        }
        return what < 0 ? most : sayings.bestLengths[what];
    }

    public int richest(int tale) {
        if (!now.hasTale(tale)) {
            return found(BEYOND);
        }
        int words = sayings.richestWords(tale);
        return words < 0 ? found(NONE) : words;
    }

    public int fills(int tale, int n) {
        if (!now.hasTale(tale) || !isIn(n, 0, MOST_WORDS)) {
            return found(BEYOND);
        }
        if (now.sizes[tale] >= MOST_TOLD) {
            return found(FULL);
        }
        sayings.spanWords(tale);
        if (sayings.canBeIn(n)) {
            return found(STATE);
        }
        for (int p = 0; p < now.parts; p++) {
            if (sayings.isFilledBy(now.lengthsOf(p), n)) {
                return p;
            }
        }
        return found(NONE);
    }

    // ---- hearers

    public int hearer(int age) {
        if (!isIn(age, 0, MOST_AGE)) {
            return found(BEYOND);
        }
        return now.hearers >= MOST_HEARERS ? found(FULL) : now.addHearer(age);
    }

    public int age(int hearer, int v) {
        if (!now.hasHearer(hearer) || !isIn(v, 0, MOST_AGE)) {
            return found(BEYOND);
        }
        return swap(now.ages, hearer, v);
    }

    public int ageOf(int hearer) {
        return now.hasHearer(hearer) ? now.ages[hearer] : found(BEYOND);
    }

    public int to(int tale) {
        if (!now.hasTale(tale)) {
            return found(BEYOND);
        }
        sayings.spanWords(tale);
        return sayings.sayableTo();
    }

    public int tales(int hearer) {
        if (!now.hasHearer(hearer)) {
            return found(BEYOND);
        }
        int set = 0;
        for (int t = 0; t < now.tales; t++) {
            sayings.spanWords(t);
            if (sayings.canBeIn(now.ages[hearer])) {
                set |= 1 << t;
            }
        }
        return set;
    }

    public int years(int n) {
        if (!isIn(n, 1, MOST_YEARS)) {
            return found(BEYOND);
        }
        if (now.year + n > MOST_YEAR) {
            return found(STATE);
        }
        int lost = 0;
        for (int t = 0; t < now.tales; t++) {
            sayings.spanWords(t);
            for (int h = 0; h < now.hearers; h++) {
                if (sayings.canBeIn(now.ages[h]) && !sayings.canBeIn(now.ageIn(h, n))) {
                    lost++;
                }
            }
        }
        now.growOlder(n);
        return lost;
    }

    public int when(int tale, int hearer) {
        if (!now.hasTale(tale) || !now.hasHearer(hearer)) {
            return found(BEYOND);
        }
        int first = firstYear(tale, hearer, true);
        return first > MOST_WAIT ? found(NONE) : first;
    }

    public int till(int tale, int hearer) {
        if (!now.hasTale(tale) || !now.hasHearer(hearer)) {
            return found(BEYOND);
        }
        return firstYear(tale, hearer, false);
    }

    /** In how many YEARS it first can (or can't) be said; one more than MOST_WAIT if never. */
    private int firstYear(int tale, int hearer, boolean can) {
        sayings.spanWords(tale);
        for (int n = 0; n <= MOST_WAIT; n++) {
            if (sayings.canBeIn(now.ageIn(hearer, n)) == can) {
                return n;
            }
        }
        return MOST_WAIT + 1;
    }

    // ---- several at once, passing on

    public int heard(int tale, int n, int hearer) {
        if (!now.hasTale(tale) || !isIn(n, 0, MOST_WORDS) || !now.hasHearer(hearer)) {
            return found(BEYOND);
        }
        if (sayings.findBest(tale, n) == UNSAID) {
            return found(NONE);
        }
        return sayings.understoodOfBest(tale, now.ages[hearer]);
    }

    public int together(int tale, int n, int set) {
        boolean isOfHearers = isIn(set, 0, (1 << now.hearers) - 1);
        if (!now.hasTale(tale) || !isIn(n, 0, MOST_WORDS) || !isOfHearers) {
            return found(BEYOND);
        }
        int most = sayings.mostUnderstood(tale, n, set);
        return most == UNSAID ? found(NONE) : most;
    }

    public int pass(int tale, int hearer) {
        if (!now.hasTale(tale) || !now.hasHearer(hearer)) {
            return found(BEYOND);
        }
        sayings.spanWords(tale);
        return sayings.comesOf(now.sizes[tale], now.ages[hearer]);
    }

    public int through(int tale, int first, int second) {
        if (!now.hasTale(tale) || !now.hasHearer(first) || !now.hasHearer(second)) {
            return found(BEYOND);
        }
        sayings.spanWords(tale);
        int come = sayings.comesOf(now.sizes[tale], now.ages[first]);
        return sayings.comesOf(come, now.ages[second]);
    }

    public int middle(int tale, int first, int last) {
        if (!now.hasTale(tale) || !now.hasHearer(first) || !now.hasHearer(last) || first == last) {
            return found(BEYOND);
        }
        sayings.spanWords(tale);
        int toFirst = sayings.comesOf(now.sizes[tale], now.ages[first]);
        int by = -1;
        int most = -1;
        for (int h = 0; h < now.hearers; h++) {
            int come = sayings.comesOf(sayings.comesOf(toFirst, now.ages[h]), now.ages[last]);
            if (h != first && h != last && come > most) {
                by = h;
                most = come;
            }
        }
        return by < 0 ? found(NONE) : by;
    }

    public int chain(int tale) {
        if (!now.hasTale(tale)) {
            return found(BEYOND);
        }
        if (now.hearers == 0) {
            return found(NONE);
        }
        sayings.spanWords(tale);
        int come = now.sizes[tale];
        for (int h = 0; h < now.hearers; h++) {
            come = sayings.comesOf(come, now.ages[h]);
        }
        return come;
    }

    public int spread(int tale, int far) {
        if (!now.hasTale(tale) || !isIn(far, 0, MOST_AGE)) {
            return found(BEYOND);
        }
        if (now.hearers == 0) {
            return found(NONE);
        }
        sayings.spanWords(tale);
        int sayable = sayings.sayableTo();
        int have = 1;
        // Each round brings it to one more at least, or nothing changes any more.
        for (int round = 1; round < now.hearers; round++) {
            have |= sayable & now.nearTo(have, far);
        }
        return have;
    }

    // ---- the text

    public int feed(int bytes, int n) {
        if (!isIn(n, 1, 4)) {
            return found(BEYOND);
        }
        if (tape.held + n > MOST_BYTES) {
            return found(FULL);
        }
        for (int i = n - 1; i >= 0; i--) {
            tape.put(bytes >>> (8 * i));
        }
        return tape.held;
    }

    public int wipe() {
        return tape.clear();
    }

    public int book() {
        int parts = now.parts;
        int tales = now.tales;
        int hearers = now.hearers;
        int items = reading.readText();
        if (items < 0) {
            now.shrinkTo(parts, tales, hearers);
        }
        tape.clear();
        return items;
    }

    // ---- sheets

    public int sheet(int s, int bits, int n) {
        boolean isWidth = bits == 0 || bits == 8 || bits == 16 || bits == 64;
        if (!isIn(s, 0, SHEETS - 1) || !isWidth) {
            return found(BEYOND);
        }
        if (n < 0) {
            return found(SIZE);
        }
        if (n > MOST_NUMBERS) {
            return found(BEYOND);
        }
        return sheets[s].renew(bits, n);
    }

    public long write(int s, int i, long v) {
        if (!isIn(s, 0, SHEETS - 1)) {
            return found(BEYOND);
        }
        Sheet sheet = sheets[s];
        if (sheet.isMissing()) {
            return found(MISSING);
        }
        return isIn(i, 0, sheet.held - 1) ? sheet.put(i, v) : found(BEYOND);
    }

    public int copy(int s, int from, int t, int to, int n) {
        if (!isIn(s, 0, SHEETS - 1) || !isIn(t, 0, SHEETS - 1)) {
            return found(BEYOND);
        }
        Sheet source = sheets[s];
        Sheet target = sheets[t];
        if (source.isMissing() || target.isMissing()) {
            return found(MISSING);
        }
        if (source.bits != target.bits) {
            return found(KIND);
        }
        if (!source.holds(from, n) || !target.holds(to, n)) {
            return found(BEYOND);
        }
        System.arraycopy(source.numbers, from, target.numbers, to, n);
        return n;
    }

    public int lays(int s) {
        if (!isIn(s, 0, SHEETS - 1)) {
            return found(BEYOND);
        }
        Sheet sheet = sheets[s];
        if (sheet.isMissing()) {
            return found(MISSING);
        }
        int came = 0;
        for (int h = 0; h < now.hearers && h < sheet.held; h++) {
            long v = sheet.numbers[h];
            if (v >= 0 && v <= MOST_AGE) {
                now.ages[h] = (int) v;
                came++;
            }
        }
        return came;
    }

    public int say(int s, int tale, int n) {
        if (!isIn(s, 0, SHEETS - 1)) {
            return found(BEYOND);
        }
        Sheet sheet = sheets[s];
        if (sheet.isMissing()) {
            return found(MISSING);
        }
        if (!now.hasTale(tale) || !isIn(n, 0, MOST_WORDS)) {
            return found(BEYOND);
        }
        if (sayings.findBest(tale, n) == UNSAID) {
            return found(NONE);
        }
        int come = Math.min(now.sizes[tale], sheet.held);
        for (int i = 0; i < come; i++) {
            sheet.put(i, sayings.bestLengths[i]);
        }
        return come;
    }

    public int read(int s, int tale, int hearer) {
        if (!isIn(s, 0, SHEETS - 1)) {
            return found(BEYOND);
        }
        Sheet sheet = sheets[s];
        if (sheet.isMissing()) {
            return found(MISSING);
        }
        if (!now.hasTale(tale) || !now.hasHearer(hearer)) {
            return found(BEYOND);
        }
        return judge(sheet, tale, now.ages[hearer]);
    }

    private int judge(Sheet sheet, int tale, int age) {
        int told = now.sizes[tale];
        int words = 0;
        for (int i = 0; i < sheet.held; i++) {
            long v = sheet.numbers[i];
            if (i >= told || !isLength(now.lengthsOf(now.toldAt(tale, i)), v)) {
                return 1 + i;
            }
            words += (int) v;
        }
        if (sheet.held < told) {
            return 1 + sheet.held;
        }
        return words == age ? 0 : NOT_AGE_WORDS;
    }

    // ---- images

    public int image() {
        kept.become(now);
        isKept = true;
        return 1;
    }

    public int undo() {
        if (!isKept) {
            return found(NONE);
        }
        now.become(kept);
        return now.parts;
    }

    public int tear() {
        int was = isKept ? 1 : 0;
        isKept = false;
        return was;
    }

    public int count(int what) {
        switch (what) {
            case 0:
                return now.parts;
            case 1:
                return now.tales;
            case 2:
                return now.hearers;
            case 3:
                return tape.held;
            case 4:
                return now.year;
            default:
                return found(BEYOND);
        }
    }

    public int status(int which) {
        if (!isIn(which, -1, FINDINGS - 1)) {
            return found(BEYOND);
        }
        if (which >= 0) {
            return findings[which];
        }
        int all = 0;
        for (int f = 0; f < FINDINGS; f++) {
            all += findings[f];
        }
        return all;
    }

    /** Counts a finding where it is told, since a number on a sheet may look like one. */
    private int found(int finding) {
        int f = BEYOND - finding;
        if (isIn(f, 0, FINDINGS - 1)) {
            findings[f]++;
        }
        return finding;
    }

    private static boolean isIn(int v, int least, int most) {
        return v >= least && v <= most;
    }

    private static int swap(int[] row, int i, int v) {
        int was = row[i];
        row[i] = v;
        return was;
    }

    private static boolean isLength(int lengths, long n) {
        return n >= 0 && n <= LONGEST && (lengths >> (int) n & 1) == 1;
    }

    private static boolean isUnder(int kind, int above) {
        int k = kind;
        for (int level = 0; level < KINDS && k >= 0; level++) {
            if (k == above) {
                return true;
            }
            k = UNDER[k];
        }
        return false;
    }

    /** What section 1 tells, but for THE TAPE: what an image keeps. */
    private static final class Stock {
        int parts = 0;
        final int[] kinds = new int[MOST_PARTS];
        final int[] leasts = new int[MOST_PARTS];
        final int[] mosts = new int[MOST_PARTS];
        final int[] worths = new int[MOST_PARTS];
        int tales = 0;
        final int[] sizes = new int[MOST_TALES];
        final int[] told = new int[MOST_TALES * MOST_TOLD];
        int hearers = 0;
        final int[] ages = new int[MOST_HEARERS];
        int year = 0;

        boolean hasPart(int p) {
            return p >= 0 && p < parts;
        }

        boolean hasTale(int t) {
            return t >= 0 && t < tales;
        }

        boolean hasHearer(int h) {
            return h >= 0 && h < hearers;
        }

        int addPart(int kind, int least, int most, int worth) {
            kinds[parts] = kind;
            leasts[parts] = least;
            mosts[parts] = most;
            worths[parts] = worth;
            return parts++;
        }

        int addTale() {
            sizes[tales] = 0;
            return tales++;
        }

        int addTold(int t, int p) {
            told[t * MOST_TOLD + sizes[t]] = p;
            return ++sizes[t];
        }

        int dropTold(int t) {
            sizes[t]--;
            return toldAt(t, sizes[t]);
        }

        int toldAt(int t, int i) {
            return told[t * MOST_TOLD + i];
        }

        int addHearer(int years) {
            ages[hearers] = years;
            return hearers++;
        }

        int ageIn(int h, int n) {
            return Math.min(MOST_AGE, ages[h] + n);
        }

        void growOlder(int n) {
            for (int h = 0; h < hearers; h++) {
                ages[h] = ageIn(h, n);
            }
            year += n;
        }

        /** HEARERS whose AGE is at most far from that of one in a set, as a set. */
        int nearTo(int set, int far) {
            int near = 0;
            for (int h = 0; h < hearers; h++) {
                for (int g = 0; g < hearers; g++) {
                    if ((set >> g & 1) == 1 && Math.abs(ages[h] - ages[g]) <= far) {
                        near |= 1 << h;
                    }
                }
            }
            return near;
        }

        /** LENGTHS of a PART, as a set. */
        int lengthsOf(int p) {
            int least = leasts[p];
            int most = mosts[p];
            switch (kinds[p]) {
                case WORD:
                    return 1 << least;
                case NAME:
                    return fromTo(least, most);
                case LINK:
                    return 1 | 1 << least;
                case TITLE:
                    return fromTo(least, most) & EVEN << least;
                case ECHO:
                    return fromTo(least, most) | fromTo(2 * least, 2 * most) & EVEN;
                default:
                    // PAD: LEAST is one of those up to MOST already.
                    return fromTo(0, most);
            }
        }

        /** All from least to most, as a set. */
        private static int fromTo(int least, int most) {
            return (2 << most) - (1 << least);
        }

        /** VALUE of a PART said in n words, n being one of its LENGTHS. */
        int valueOf(int p, int n) {
            int worth = worths[p];
            switch (kinds[p]) {
                case WORD:
                    return worth;
                case NAME:
                    return worth * n;
                case LINK:
                    return n > 0 ? worth : 0;
                case TITLE:
                    return worth * n + 5;
                case ECHO:
                    return worth * (n > mosts[p] ? n / 2 : n);
                default:
                    return -n;
            }
        }

        /** Leaves out what came behind so many; a text's ITEMS only ever come behind. */
        void shrinkTo(int toParts, int toTales, int toHearers) {
            parts = toParts;
            tales = toTales;
            hearers = toHearers;
        }

        void become(Stock other) {
            parts = other.parts;
            System.arraycopy(other.kinds, 0, kinds, 0, MOST_PARTS);
            System.arraycopy(other.leasts, 0, leasts, 0, MOST_PARTS);
            System.arraycopy(other.mosts, 0, mosts, 0, MOST_PARTS);
            System.arraycopy(other.worths, 0, worths, 0, MOST_PARTS);
            tales = other.tales;
            System.arraycopy(other.sizes, 0, sizes, 0, MOST_TALES);
            System.arraycopy(other.told, 0, told, 0, MOST_TALES * MOST_TOLD);
            hearers = other.hearers;
            System.arraycopy(other.ages, 0, ages, 0, MOST_HEARERS);
            year = other.year;
        }
    }

    /** What can be said of one TALE at a time. Its rows are made once and used by each call anew. */
    private static final class Sayings {
        private final Stock stock;
        /** How many SAYINGS of the PARTS so far have so many words. */
        private final long[] tally = new long[ROW];
        /** The most that a row of PARTS can bring in so many words; a row from each PART on. */
        private final int[] gains = new int[(MOST_TOLD + 1) * ROW];
        /** LENGTHS of BEST. */
        final int[] bestLengths = new int[MOST_TOLD];
        /** Numbers of words of the first k PARTS, as a set: 0 to 63, and 64 to 127. */
        private final long[] low = new long[MOST_TOLD + 1];
        private final long[] high = new long[MOST_TOLD + 1];
        /** How many PARTS the TALE has that was spanned last. */
        private int spanned = 0;

        Sayings(Stock stock) {
            this.stock = stock;
        }

        long waysIn(int t, int n) {
            for (int w = 0; w <= n; w++) {
                tally[w] = w == 0 ? 1 : 0;
            }
            for (int i = 0; i < stock.sizes[t]; i++) {
                tallyPart(stock.lengthsOf(stock.toldAt(t, i)), n);
            }
            return tally[n];
        }

        /** From n words down, so that each sum still finds what was there before this PART. */
        private void tallyPart(int lengths, int n) {
            for (int w = n; w >= 0; w--) {
                long sum = 0;
                for (int l = 0; l <= w && l <= LONGEST; l++) {
                    if ((lengths >> l & 1) == 1) {
                        sum += tally[w - l];
                    }
                }
                tally[w] = sum;
            }
        }

        /** Of every number of words, also above 120: each PART's LENGTHS are chosen freely. */
        long waysInAll(int t) {
            long all = 1;
            for (int i = 0; i < stock.sizes[t]; i++) {
                all *= Integer.bitCount(stock.lengthsOf(stock.toldAt(t, i)));
            }
            return all;
        }

        /** Finds in how many words a TALE, and each row of its first PARTS, can be said. */
        void spanWords(int t) {
            spanned = stock.sizes[t];
            low[0] = 1;
            high[0] = 0;
            for (int i = 0; i < spanned; i++) {
                spanPart(i, stock.lengthsOf(stock.toldAt(t, i)));
            }
        }

        private void spanPart(int i, int lengths) {
            long nextLow = 0;
            long nextHigh = 0;
            for (int l = 0; l <= LONGEST; l++) {
                if ((lengths >> l & 1) == 1) {
                    nextLow |= low[i] << l;
                    // A shift by 64 would be one by 0, and bring all of the low bits.
                    nextHigh |= high[i] << l | (l == 0 ? 0 : low[i] >>> (64 - l));
                }
            }
            low[i + 1] = nextLow;
            high[i + 1] = nextHigh;
        }

        private boolean isSpanned(int k, int n) {
            if (n < 0 || n > MOST_WORDS) {
                return false;
            }
            return ((n < 64 ? low[k] >>> n : high[k] >>> (n - 64)) & 1) == 1;
        }

        /** Of the TALE that was spanned last. */
        boolean canBeIn(int n) {
            return isSpanned(spanned, n);
        }

        boolean isFilledBy(int lengths, int n) {
            for (int l = 0; l <= LONGEST; l++) {
                if ((lengths >> l & 1) == 1 && canBeIn(n - l)) {
                    return true;
                }
            }
            return false;
        }

        int fewestWords() {
            for (int n = 0; n <= MOST_WORDS; n++) {
                if (canBeIn(n)) {
                    return n;
                }
            }
            return MOST_WORDS + 1;
        }

        int mostWords() {
            for (int n = MOST_WORDS; n >= 0; n--) {
                if (canBeIn(n)) {
                    return n;
                }
            }
            return -1;
        }

        int gapsBetween(int fewest, int most) {
            int gaps = 0;
            for (int n = fewest; n <= most; n++) {
                if (!canBeIn(n)) {
                    gaps++;
                }
            }
            return gaps;
        }

        /** HEARERS to whom the TALE that was spanned last CAN BE SAID, as a set. */
        int sayableTo() {
            int set = 0;
            for (int h = 0; h < stock.hearers; h++) {
                if (canBeIn(stock.ages[h])) {
                    set |= 1 << h;
                }
            }
            return set;
        }

        /** How many of the first PARTS of the TALE that was spanned last come to one of an AGE. */
        int comesOf(int firstParts, int years) {
            for (int k = firstParts; k > 0; k--) {
                if (isSpanned(k, years)) {
                    return k;
                }
            }
            return 0;
        }

        /** VALUE of BEST of a TALE in n words, its LENGTHS being found too; or UNSAID. */
        int findBest(int t, int n) {
            findGains(t);
            int most = gains[n];
            int left = n;
            for (int i = 0; i < stock.sizes[t] && most != UNSAID; i++) {
                bestLengths[i] = firstBestLength(t, i, left);
                left -= bestLengths[i];
            }
            return most;
        }

        int richestWords(int t) {
            findGains(t);
            int words = -1;
            int most = UNSAID;
            for (int w = 0; w < ROW; w++) {
                if (gains[w] > most) {
                    words = w;
                    most = gains[w];
                }
            }
            return words;
        }

        /** From the last PART to the first, so that LENGTHS can then be chosen from the first on. */
        private void findGains(int t) {
            int told = stock.sizes[t];
            for (int w = 0; w < (told + 1) * ROW; w++) {
                gains[w] = UNSAID;
            }
            gains[told * ROW] = 0;
            for (int i = told - 1; i >= 0; i--) {
                int p = stock.toldAt(t, i);
                int lengths = stock.lengthsOf(p);
                for (int l = 0; l <= LONGEST; l++) {
                    if ((lengths >> l & 1) == 1) {
                        gainWith(i, l, stock.valueOf(p, l));
                    }
                }
            }
        }

        /** What the PARTS from the i-th on can bring, if that one is said in l words. */
        private void gainWith(int i, int l, int gain) {
            int here = i * ROW + l;
            int next = (i + 1) * ROW;
            for (int w = 0; w + l < ROW; w++) {
                int ahead = gains[next + w];
                if (ahead != UNSAID && ahead + gain > gains[here + w]) {
                    gains[here + w] = ahead + gain;
                }
            }
        }

        /** The least LENGTH of the i-th PART with which the most can still be brought. */
        private int firstBestLength(int t, int i, int left) {
            int p = stock.toldAt(t, i);
            int lengths = stock.lengthsOf(p);
            int next = (i + 1) * ROW;
            for (int l = 0; l <= LONGEST && l <= left; l++) {
                if ((lengths >> l & 1) == 1 && gains[next + left - l] != UNSAID
                        && gains[next + left - l] + stock.valueOf(p, l) == gains[i * ROW + left]) {
                    return l;
                }
            }
            return 0;
        }

        int understoodOfBest(int t, int years) {
            int understood = 0;
            int words = 0;
            for (int i = 0; i < stock.sizes[t]; i++) {
                words += bestLengths[i];
                if (words <= years) {
                    understood++;
                }
            }
            return understood;
        }

        /** The first row of gains is used for what a set of HEARERS has UNDERSTOOD so far. */
        int mostUnderstood(int t, int n, int set) {
            for (int w = 0; w <= n; w++) {
                gains[w] = w == 0 ? 0 : UNSAID;
            }
            for (int i = 0; i < stock.sizes[t]; i++) {
                int lengths = stock.lengthsOf(stock.toldAt(t, i));
                // From n words down, since what was there before this PART is still asked for.
                for (int w = n; w >= 0; w--) {
                    int most = mostAhead(lengths, w);
                    gains[w] = most == UNSAID ? UNSAID : most + hearing(set, w);
                }
            }
            return gains[n];
        }

        private int mostAhead(int lengths, int w) {
            int most = UNSAID;
            for (int l = 0; l <= w && l <= LONGEST; l++) {
                if ((lengths >> l & 1) == 1) {
                    most = Math.max(most, gains[w - l]);
                }
            }
            return most;
        }

        /** How many of a set of HEARERS hear the first w words. */
        private int hearing(int set, int w) {
            int many = 0;
            for (int h = 0; h < stock.hearers; h++) {
                if ((set >> h & 1) == 1 && stock.ages[h] >= w) {
                    many++;
                }
            }
            return many;
        }
    }

    /** THE TAPE. */
    private static final class Tape {
        final int[] bytes = new int[MOST_BYTES];
        int held = 0;

        void put(int b) {
            if (held < MOST_BYTES) {
                bytes[held] = b & 255;
                held++;
            }
        }

        int clear() {
            int had = held;
            held = 0;
            return had;
        }
    }

    /** Reads THE TEXT of a BOOK, a TOKEN at a time. */
    private static final class Reading {
        private static final int END = 0;
        private static final int LETTERS = 1;
        private static final int DIGITS = 2;
        private static final int SIGN = 3;
        private static final int OTHER = 4;

        private final Tape tape;
        private final Stock stock;
        /** The TOKEN at hand: where it begins, where the next may, its sort; the NUMBER asked for last. */
        private int start = 0;
        private int behind = 0;
        private int sort = END;
        private int number = 0;

        Reading(Tape tape, Stock stock) {
            this.tape = tape;
            this.stock = stock;
        }

        /** How many ITEMS came; or, with a FAULT, -1 less its place, some having come perhaps. */
        int readText() {
            behind = 0;
            for (int items = 1; items <= MOST_BYTES; items++) {
                step();
                if (!readItem()) {
                    return -1 - start;
                }
                if (sort == END) {
                    return items;
                }
                if (sort != SIGN) {
                    return -1 - start;
                }
            }
            return -1 - start;
        }

        /** Each of these leaves at hand the TOKEN behind the ITEM, or the one that can't stand there. */
        private boolean readItem() {
            for (int kind = 0; kind < KINDS; kind++) {
                if (isText(kindText(kind))) {
                    return readPart(kind);
                }
            }
            if (isText("tale")) {
                return readTale();
            }
            return isText("hearer") && readHearer();
        }

        private boolean readPart(int kind) {
            if (stock.parts >= MOST_PARTS || !stepToNumber(1, MOST_LENGTH)) {
                return false;
            }
            int least = number;
            int most = least;
            int worth = 1;
            step();
            if (isText("to")) {
                if (!stepToNumber(least, MOST_LENGTH)) {
                    return false;
                }
                most = number;
                step();
            }
            if (isText("worth")) {
                if (!stepToNumber(0, MOST_WORTH)) {
                    return false;
                }
                worth = number;
                step();
            }
            stock.addPart(kind, least, most, worth);
            return true;
        }

        private boolean readTale() {
            if (stock.tales >= MOST_TALES) {
                return false;
            }
            int t = stock.addTale();
            step();
            if (!isText("of")) {
                return true;
            }
            step();
            for (int i = 0; i < MOST_TOLD && (i == 0 || sort == DIGITS); i++) {
                if (!isNumber(0, stock.parts - 1)) {
                    return false;
                }
                stock.addTold(t, number);
                step();
            }
            return true;
        }

        private boolean readHearer() {
            if (stock.hearers >= MOST_HEARERS || !stepToNumber(0, MOST_AGE)) {
                return false;
            }
            stock.addHearer(number);
            step();
            return true;
        }

        private boolean stepToNumber(int least, int most) {
            step();
            return isNumber(least, most);
        }

        private boolean isNumber(int least, int most) {
            number = 0;
            for (int i = start; i < behind && sort == DIGITS; i++) {
                // One above 999 may stand nowhere, however much it is above.
                number = Math.min(MOST_NUMBER + 1, number * 10 + byteAt(i) - '0');
            }
            return sort == DIGITS && isIn(number, least, most);
        }

        private boolean isText(String text) {
            if (sort != LETTERS || behind - start != text.length()) {
                return false;
            }
            for (int i = 0; i < text.length(); i++) {
                if (byteAt(start + i) != text.charAt(i)) {
                    return false;
                }
            }
            return true;
        }

        private static String kindText(int kind) {
            switch (kind) {
                case WORD:
                    return "word";
                case NAME:
                    return "name";
                case LINK:
                    return "link";
                case TITLE:
                    return "title";
                case ECHO:
                    return "echo";
                default:
                    return "pad";
            }
        }

        /** To the next TOKEN; behind the last one stands END, at the place behind all bytes. */
        private void step() {
            start = behind;
            while (start < tape.held && byteAt(start) == ' ') {
                start++;
            }
            sort = sortOf(byteAt(start));
            behind = sort == END ? start : start + 1;
            if (sort == LETTERS || sort == DIGITS) {
                while (behind < tape.held && sortOf(byteAt(behind)) == sort) {
                    behind++;
                }
            }
        }

        /** -1 behind the last byte. */
        private int byteAt(int place) {
            return place >= 0 && place < tape.held ? tape.bytes[place] : -1;
        }

        private static int sortOf(int b) {
            if (b < 0) {
                return END;
            }
            if (b >= 'a' && b <= 'z') {
                return LETTERS;
            }
            if (b >= '0' && b <= '9') {
                return DIGITS;
            }
            return b == ';' ? SIGN : OTHER;
        }
    }

    /** A row of numbers of so many bits; of 0 bits, if it is MISSING. */
    private static final class Sheet {
        final long[] numbers = new long[MOST_NUMBERS];
        int bits = 0;
        int held = 0;

        boolean isMissing() {
            return bits == 0;
        }

        int renew(int newBits, int n) {
            bits = newBits;
            held = newBits == 0 ? 0 : n;
            for (int i = 0; i < MOST_NUMBERS; i++) {
                numbers[i] = 0;
            }
            return held;
        }

        boolean holds(int from, int n) {
            return n >= 0 && n <= held && from >= 0 && from <= held - n;
        }

        long put(int i, long v) {
            long was = numbers[i];
            numbers[i] = lowest(v);
            return was;
        }

        private long lowest(long v) {
            if (bits == 8) {
                return (byte) v;
            }
            return bits == 16 ? (short) v : v;
        }
    }
}
