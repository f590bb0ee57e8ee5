import java.util.Random;

/** Runs of calls chosen by a fixed seed, on the class and on the model: both answer the same. */
public final class ModelTest {
    private static final int RUNS = 2500;
    /** So many calls of one object are promised. */
    private static final int CALLS = 512;
    /** More than any one step of a run makes. */
    private static final int STEP = 40;
    private static final String[] TOKENS = {"word", "name", "link", "title", "echo", "pad", "tale", "of", "hearer",
        "to", "worth", ";", "0", "1", "2", "3", "5", "7", "9", "12", "13", "40", "99", "100", "1000", "007", "x", ".", "ta"};

    private final Random random;
    private final YearWords x = new YearWords();
    private final Model m = new Model();
    private final int run;
    private int calls = 0;
    private boolean isWrong = false;

    private ModelTest(int run) {
        this.run = run;
        random = new Random(run * 7919L + 13);
    }

    public static void main(String[] args) {
        for (int run = 0; run < RUNS; run++) {
            new ModelTest(run).go();
        }
        Due.end("ModelTest");
    }

    private void go() {
        build();
        while (calls < CALLS - STEP && !isWrong) {
            call(random.nextInt(50));
        }
        Due.holds("run " + run + " has " + calls + " calls", calls <= CALLS);
    }

    /** Behind each call of the object. */
    private void due(String call, long got, long want) {
        calls++;
        Due.is("run " + run + ": " + call, got, want);
        if (got != want) {
            isWrong = true;
        }
    }

    /** So that most runs have something to be asked about. */
    private void build() {
        int parts = random.nextInt(17);
        for (int i = 0; i < parts; i++) {
            part();
        }
        int tales = random.nextInt(6);
        for (int t = 0; t < tales; t++) {
            due("tale()", x.tale(), m.tale());
            int told = random.nextInt(random.nextInt(4) == 0 ? 11 : 6);
            for (int i = 0; i < told; i++) {
                int p = random.nextInt(Math.max(1, parts));
                due("tell", x.tell(t, p), m.tell(t, p));
            }
        }
        int hearers = random.nextInt(8);
        for (int i = 0; i < hearers; i++) {
            int a = anAge();
            due("hearer", x.hearer(a), m.hearer(a));
        }
    }

    private int upTo(int most) {
        int r = random.nextInt(60);
        if (r == 0) {
            return -1;
        }
        if (r == 1) {
            return most + 1;
        }
        if (r == 2) {
            return random.nextInt();
        }
        return random.nextInt(most + 1);
    }

    /** Mostly one that there is. */
    private int one(int what) {
        return upTo(Math.max(0, m.count(what) - 1));
    }

    private int anAge() {
        return random.nextInt(3) == 0 ? upTo(99) : upTo(30);
    }

    private int words() {
        return random.nextInt(4) == 0 ? upTo(120) : upTo(40);
    }

    private void part() {
        int kind = upTo(5);
        int least = 1 + upTo(11);
        int most = random.nextInt(8) == 0 ? upTo(12) : least + random.nextInt(Math.max(1, Math.min(12, 13 - least)));
        int worth = upTo(9);
        due("part(" + kind + ", " + least + ", " + most + ", " + worth + ")",
            x.part(kind, least, most, worth), m.part(kind, least, most, worth));
    }

    private void call(int which) {
        int t = one(1);
        int p = one(0);
        int h = one(2);
        int g = one(2);
        int n = words();
        int s = upTo(3);
        String at = " t=" + t + " p=" + p + " h=" + h + " g=" + g + " n=" + n + " s=" + s;
        switch (which) {
            case 0: part(); break;
            case 1: {
                int what = upTo(4);
                due("partOf " + what + at, x.partOf(p, what), m.partOf(p, what));
                break;
            }
            case 2: {
                int what = upTo(3);
                int v = upTo(12);
                due("set " + what + " " + v + at, x.set(p, what, v), m.set(p, what, v));
                break;
            }
            case 3: {
                int kind = upTo(5);
                due("turn " + kind + at, x.turn(p, kind), m.turn(p, kind));
                break;
            }
            case 4: {
                int kind = upTo(5);
                due("as " + kind + at, x.as(p, kind), m.as(p, kind));
                break;
            }
            case 5: {
                int v = upTo(24);
                due("value " + v + at, x.value(p, v), m.value(p, v));
                break;
            }
            case 6: due("tale", x.tale(), m.tale()); break;
            case 7: due("tell" + at, x.tell(t, p), m.tell(t, p)); break;
            case 8: due("cut" + at, x.cut(t), m.cut(t)); break;
            case 9: {
                int i = upTo(9);
                due("ith " + i + at, x.ith(t, i), m.ith(t, i));
                break;
            }
            case 10: due("size" + at, x.size(t), m.size(t)); break;
            case 11: case 12: due("ways" + at, x.ways(t, n), m.ways(t, n)); break;
            case 13: due("allWays" + at, x.allWays(t), m.allWays(t)); break;
            case 14: {
                int what = upTo(2);
                due("length " + what + at, x.length(t, what), m.length(t, what));
                break;
            }
            case 15: case 16: {
                int what = upTo(10) - 1;
                due("best " + what + at, x.best(t, n, what), m.best(t, n, what));
                break;
            }
            case 17: due("richest" + at, x.richest(t), m.richest(t)); break;
            case 18: due("fills" + at, x.fills(t, n), m.fills(t, n)); break;
            case 19: {
                int a = anAge();
                due("hearer " + a, x.hearer(a), m.hearer(a));
                break;
            }
            case 20: {
                int a = anAge();
                due("age " + a + at, x.age(h, a), m.age(h, a));
                break;
            }
            case 21: due("ageOf" + at, x.ageOf(h), m.ageOf(h)); break;
            case 22: due("to" + at, x.to(t), m.to(t)); break;
            case 23: due("tales" + at, x.tales(h), m.tales(h)); break;
            case 24: {
                int y = random.nextInt(3) == 0 ? upTo(60) : upTo(3);
                due("years " + y, x.years(y), m.years(y));
                break;
            }
            default: callMore(which, t, h, g, n, s, at);
        }
    }

    private void callMore(int which, int t, int h, int g, int n, int s, String at) {
        switch (which) {
            case 25: due("when" + at, x.when(t, h), m.when(t, h)); break;
            case 26: due("till" + at, x.till(t, h), m.till(t, h)); break;
            case 27: due("heard" + at, x.heard(t, n, h), m.heard(t, n, h)); break;
            case 28: case 29: {
                int set = upTo((1 << m.count(2)) - 1);
                due("together " + set + at, x.together(t, n, set), m.together(t, n, set));
                break;
            }
            case 30: due("pass" + at, x.pass(t, h), m.pass(t, h)); break;
            case 31: due("through" + at, x.through(t, h, g), m.through(t, h, g)); break;
            case 32: due("middle" + at, x.middle(t, h, g), m.middle(t, h, g)); break;
            case 33: due("chain" + at, x.chain(t), m.chain(t)); break;
            case 34: {
                int far = random.nextBoolean() ? upTo(99) : upTo(8);
                due("spread " + far + at, x.spread(t, far), m.spread(t, far));
                break;
            }
            case 35: {
                int v = random.nextInt();
                int k = upTo(5);
                due("feed " + v + " " + k, x.feed(v, k), m.feed(v, k));
                break;
            }
            case 36: due("wipe", x.wipe(), m.wipe()); break;
            case 37: text(looseText()); break;
            case 38: case 39: text(likelyText()); break;
            default: callSheets(which, t, h, n, s, at);
        }
    }

    private void callSheets(int which, int t, int h, int n, int s, String at) {
        switch (which) {
            case 40: {
                int b = random.nextInt(12) == 0 ? upTo(64) : new int[] {8, 16, 64, 0, 8, 64}[random.nextInt(6)];
                int k = random.nextInt(3) == 0 ? upTo(40) : upTo(8);
                due("sheet " + b + " " + k + at, x.sheet(s, b, k), m.sheet(s, b, k));
                break;
            }
            case 41: case 42: {
                int i = upTo(9);
                long v = random.nextInt(4) == 0 ? random.nextLong() : upTo(24);
                due("write " + i + " " + v + at, x.write(s, i, v), m.write(s, i, v));
                break;
            }
            case 43: {
                int to = upTo(3);
                int a = upTo(5);
                int b = upTo(5);
                int k = upTo(5);
                due("copy " + to + " " + a + " " + b + " " + k + at, x.copy(s, a, to, b, k), m.copy(s, a, to, b, k));
                break;
            }
            case 44: due("lays" + at, x.lays(s), m.lays(s)); break;
            case 45: due("say" + at, x.say(s, t, n), m.say(s, t, n)); break;
            case 46: saidAndRead(s, t, h, at); break;
            case 47: due("image", x.image(), m.image()); break;
            case 48: {
                if (random.nextInt(4) == 0) {
                    due("tear", x.tear(), m.tear());
                }
                due("undo", x.undo(), m.undo());
                break;
            }
            default: {
                int what = upTo(4);
                due("count " + what, x.count(what), m.count(what));
                int which2 = upTo(7) - 1;
                due("status " + which2, x.status(which2), m.status(which2));
            }
        }
    }

    /** A sheet that is often just as long as the TALE, and read by one who is of that AGE. */
    private void saidAndRead(int s, int t, int h, String at) {
        int told = m.size(t);
        due("size" + at, x.size(t), told);
        int k = random.nextInt(4) == 0 ? upTo(11) : told;
        due("sheet " + k + at, x.sheet(s, 8, k), m.sheet(s, 8, k));
        int n = m.ageOf(h);
        due("ageOf" + at, x.ageOf(h), n);
        due("say " + n + at, x.say(s, t, n), m.say(s, t, n));
        due("read" + at, x.read(s, t, h), m.read(s, t, h));
    }

    private void text(String text) {
        for (int i = 0; i < text.length(); i += 4) {
            int k = Math.min(4, text.length() - i);
            int v = random.nextInt();
            for (int j = i; j < i + k; j++) {
                v = v << 8 | text.charAt(j);
            }
            due("feed " + v + " " + k, x.feed(v, k), m.feed(v, k));
        }
        due("book of '" + text + "'", x.book(), m.book());
    }

    private String blank() {
        return random.nextInt(4) == 0 ? "" : random.nextInt(5) == 0 ? "  " : " ";
    }

    private String looseText() {
        StringBuilder b = new StringBuilder();
        int tokens = random.nextInt(6);
        for (int i = 0; i < tokens; i++) {
            b.append(blank()).append(TOKENS[random.nextInt(TOKENS.length)]);
        }
        return b.append(random.nextInt(3) == 0 ? blank() : "").toString();
    }

    private String likelyText() {
        StringBuilder b = new StringBuilder();
        int items = 1 + random.nextInt(3);
        for (int i = 0; i < items; i++) {
            b.append(i == 0 ? "" : blank() + ";" + blank()).append(likelyItem());
        }
        if (random.nextInt(6) == 0) {
            b.setCharAt(random.nextInt(b.length()), (char) random.nextInt(256));
        }
        return b.toString();
    }

    private String likelyItem() {
        switch (random.nextInt(4)) {
            case 0: {
                StringBuilder b = new StringBuilder("tale");
                int told = random.nextInt(6);
                b.append(told > 0 ? blank() + "of" : "");
                for (int i = 0; i < told; i++) {
                    b.append(i == 0 ? blank() : " ").append(random.nextInt(Math.max(1, m.count(0) + 1)));
                }
                return b.toString();
            }
            case 1:
                return "hearer" + blank() + random.nextInt(103);
            default: {
                int least = random.nextInt(13);
                String most = random.nextBoolean() ? blank() + "to" + blank() + (least + random.nextInt(5)) : "";
                String worth = random.nextBoolean() ? blank() + "worth" + blank() + random.nextInt(11) : "";
                return TOKENS[random.nextInt(6)] + blank() + least + most + worth;
            }
        }
    }
}
