import java.util.ArrayList;
import java.util.HashMap;
import java.util.List;
import java.util.Map;
import java.util.TreeMap;
import java.util.TreeSet;

/**
 * The document once more, written for plainness and in other ways than the class: SAYINGS are
 * written out one by one where they are few, states are copied whole, a text is split ahead.
 */
final class Model {
    static final int BEYOND = -1000000001;
    static final int FULL = -1000000002;
    static final int KIND = -1000000003;
    static final int NONE = -1000000004;
    static final int STATE = -1000000005;
    static final int MISSING = -1000000006;
    static final int SIZE = -1000000007;
    private static final List<String> KINDS = List.of("word", "name", "link", "title", "echo", "pad");
    /** Up to so many SAYINGS are written out one by one. */
    private static final long FEW = 3000;

    record Part(int kind, int least, int most, int worth) {
        TreeSet<Integer> lengths() {
            TreeSet<Integer> set = new TreeSet<>();
            for (int n = 0; n <= 24; n++) {
                boolean name = n >= least && n <= most;
                boolean twice = n % 2 == 0 && n / 2 >= least && n / 2 <= most;
                boolean is = switch (kind) {
                    case 0 -> n == least;
                    case 1 -> name;
                    case 2 -> n == least || n == 0;
                    case 3 -> name && (n - least) % 2 == 0;
                    case 4 -> name || twice;
                    default -> n == least || n == 0 || n >= 1 && n <= most;
                };
                if (is) {
                    set.add(n);
                }
            }
            return set;
        }

        int value(int n) {
            return switch (kind) {
                case 0 -> worth;
                case 1 -> worth * n;
                case 2 -> n > 0 ? worth : 0;
                case 3 -> worth * n + 5;
                case 4 -> n > most ? worth * (n / 2) : worth * n;
                default -> 0 - n;
            };
        }
    }

    /** One SAYING: its LENGTHS and its VALUE. */
    record Saying(List<Integer> lengths, int value) {
        int words() {
            int sum = 0;
            for (int l : lengths) {
                sum += l;
            }
            return sum;
        }

        boolean isBetter(Saying other) {
            if (other == null || value != other.value) {
                return other == null || value > other.value;
            }
            for (int i = 0; i < lengths.size(); i++) {
                if (!lengths.get(i).equals(other.lengths.get(i))) {
                    return lengths.get(i) < other.lengths.get(i);
                }
            }
            return false;
        }
    }

    static final class State {
        List<Part> parts = new ArrayList<>();
        List<List<Integer>> tales = new ArrayList<>();
        List<Integer> ages = new ArrayList<>();
        int year = 0;

        State copy() {
            State c = new State();
            c.parts.addAll(parts);
            for (List<Integer> t : tales) {
                c.tales.add(new ArrayList<>(t));
            }
            c.ages.addAll(ages);
            c.year = year;
            return c;
        }
    }

    private State st = new State();
    private State kept = null;
    private final StringBuilder tape = new StringBuilder();
    private final long[][] sheets = new long[4][];
    private final int[] bits = new int[4];
    private final Map<Integer, Integer> findings = new HashMap<>();

    private int find(int f) {
        findings.merge(f, 1, Integer::sum);
        return f;
    }

    private boolean noPart(int p) {
        return p < 0 || p >= st.parts.size();
    }

    private boolean noTale(int t) {
        return t < 0 || t >= st.tales.size();
    }

    private boolean noHearer(int h) {
        return h < 0 || h >= st.ages.size();
    }

    private static boolean out(int v, int a, int b) {
        return v < a || v > b;
    }

    private List<Part> row(int t) {
        List<Part> r = new ArrayList<>();
        for (int p : st.tales.get(t)) {
            r.add(st.parts.get(p));
        }
        return r;
    }

    private static long product(List<Part> row) {
        long all = 1;
        for (Part p : row) {
            all *= p.lengths().size();
        }
        return all;
    }

    /** All SAYINGS of a row, in order of LENGTHS. */
    private static List<Saying> all(List<Part> row) {
        List<Saying> list = new ArrayList<>();
        list.add(new Saying(List.of(), 0));
        for (Part p : row) {
            List<Saying> next = new ArrayList<>();
            for (Saying s : list) {
                for (int l : p.lengths()) {
                    next.add(with(s, p, l));
                }
            }
            list = next;
        }
        return list;
    }

    private static Saying with(Saying s, Part p, int l) {
        List<Integer> lengths = new ArrayList<>(s.lengths);
        lengths.add(l);
        return new Saying(lengths, s.value + p.value(l));
    }

    private static TreeMap<Integer, Long> ways(List<Part> row) {
        TreeMap<Integer, Long> map = new TreeMap<>();
        if (product(row) <= FEW) {
            for (Saying s : all(row)) {
                map.merge(s.words(), 1L, Long::sum);
            }
            return map;
        }
        map.put(0, 1L);
        for (Part p : row) {
            TreeMap<Integer, Long> next = new TreeMap<>();
            for (Map.Entry<Integer, Long> e : map.entrySet()) {
                for (int l : p.lengths()) {
                    next.merge(e.getKey() + l, e.getValue(), Long::sum);
                }
            }
            map = next;
        }
        return map;
    }

    private static TreeMap<Integer, Saying> bests(List<Part> row) {
        TreeMap<Integer, Saying> map = new TreeMap<>();
        if (product(row) <= FEW) {
            for (Saying s : all(row)) {
                better(map, s);
            }
            return map;
        }
        map.put(0, new Saying(List.of(), 0));
        for (Part p : row) {
            TreeMap<Integer, Saying> next = new TreeMap<>();
            for (Saying s : map.values()) {
                for (int l : p.lengths()) {
                    better(next, with(s, p, l));
                }
            }
            map = next;
        }
        return map;
    }

    private static void better(TreeMap<Integer, Saying> map, Saying s) {
        if (s.isBetter(map.get(s.words()))) {
            map.put(s.words(), s);
        }
    }

    private static boolean can(List<Part> row, int n) {
        return ways(row).containsKey(n);
    }

    int part(int kind, int least, int most, int worth) {
        if (out(kind, 0, 5) || out(least, 1, 12) || out(most, 1, 12) || least > most || out(worth, 0, 9)) {
            return find(BEYOND);
        }
        if (st.parts.size() == 16) {
            return find(FULL);
        }
        st.parts.add(new Part(kind, least, most, worth));
        return st.parts.size() - 1;
    }

    int partOf(int part, int what) {
        if (noPart(part) || out(what, 0, 4)) {
            return find(BEYOND);
        }
        Part p = st.parts.get(part);
        int set = 0;
        for (int l : p.lengths()) {
            set += 1 << l;
        }
        return new int[] {p.kind, p.least, p.most, p.worth, set}[what];
    }

    int set(int part, int what, int v) {
        if (noPart(part) || out(what, 1, 3)) {
            return find(BEYOND);
        }
        Part p = st.parts.get(part);
        int least = what == 1 ? v : p.least;
        int most = what == 2 ? v : p.most;
        int worth = what == 3 ? v : p.worth;
        if (out(least, 1, 12) || out(most, 1, 12) || least > most || out(worth, 0, 9)) {
            return find(BEYOND);
        }
        st.parts.set(part, new Part(p.kind, least, most, worth));
        return new int[] {p.least, p.most, p.worth}[what - 1];
    }

    int turn(int part, int kind) {
        if (noPart(part) || out(kind, 0, 5)) {
            return find(BEYOND);
        }
        Part p = st.parts.get(part);
        st.parts.set(part, new Part(kind, p.least, p.most, p.worth));
        return p.kind;
    }

    int as(int part, int kind) {
        if (noPart(part) || out(kind, 0, 5)) {
            return find(BEYOND);
        }
        Part p = st.parts.get(part);
        boolean is = kind == 0 || p.kind == kind
            || kind == 1 && (p.kind == 3 || p.kind == 4) || kind == 2 && p.kind == 5;
        return is ? p.worth : find(KIND);
    }

    int value(int part, int n) {
        if (noPart(part) || !st.parts.get(part).lengths().contains(n)) {
            return find(BEYOND);
        }
        return st.parts.get(part).value(n);
    }

    int tale() {
        if (st.tales.size() == 8) {
            return find(FULL);
        }
        st.tales.add(new ArrayList<>());
        return st.tales.size() - 1;
    }

    int tell(int tale, int part) {
        if (noTale(tale) || noPart(part)) {
            return find(BEYOND);
        }
        if (st.tales.get(tale).size() == 10) {
            return find(FULL);
        }
        st.tales.get(tale).add(part);
        return st.tales.get(tale).size();
    }

    int cut(int tale) {
        if (noTale(tale)) {
            return find(BEYOND);
        }
        List<Integer> t = st.tales.get(tale);
        return t.isEmpty() ? find(NONE) : t.remove(t.size() - 1);
    }

    int ith(int tale, int i) {
        if (noTale(tale) || out(i, 0, st.tales.get(tale).size() - 1)) {
            return find(BEYOND);
        }
        return st.tales.get(tale).get(i);
    }

    int size(int tale) {
        return noTale(tale) ? find(BEYOND) : st.tales.get(tale).size();
    }

    long ways(int tale, int n) {
        if (noTale(tale) || out(n, 0, 120)) {
            return find(BEYOND);
        }
        return ways(row(tale)).getOrDefault(n, 0L);
    }

    long allWays(int tale) {
        if (noTale(tale)) {
            return find(BEYOND);
        }
        long sum = 0;
        for (long w : ways(row(tale)).values()) {
            sum += w;
        }
        return sum;
    }

    int length(int tale, int what) {
        if (noTale(tale) || out(what, 0, 2)) {
            return find(BEYOND);
        }
        var can = ways(row(tale)).headMap(120, true);
        if (can.isEmpty()) {
            return find(NONE);
        }
        int between = can.lastKey() - can.firstKey() + 1 - can.size();
        return new int[] {can.firstKey(), can.lastKey(), between}[what];
    }

    int best(int tale, int n, int what) {
        if (noTale(tale) || out(n, 0, 120) || out(what, -1, 9)) {
            return find(BEYOND);
        }
        Saying s = bests(row(tale)).get(n);
        if (s == null || what >= s.lengths.size()) {
            return find(NONE);
        }
        return what == -1 ? s.value : s.lengths.get(what);
    }

    int richest(int tale) {
        if (noTale(tale)) {
            return find(BEYOND);
        }
        Saying most = null;
        for (Saying s : bests(row(tale)).headMap(120, true).values()) {
            if (most == null || s.value > most.value) {
                most = s;
            }
        }
        return most == null ? find(NONE) : most.words();
    }

    int fills(int tale, int n) {
        if (noTale(tale) || out(n, 0, 120)) {
            return find(BEYOND);
        }
        List<Part> row = row(tale);
        if (row.size() == 10) {
            return find(FULL);
        }
        if (can(row, n)) {
            return find(STATE);
        }
        for (int p = 0; p < st.parts.size(); p++) {
            List<Part> more = new ArrayList<>(row);
            more.add(st.parts.get(p));
            if (can(more, n)) {
                return p;
            }
        }
        return find(NONE);
    }

    int hearer(int age) {
        if (out(age, 0, 99)) {
            return find(BEYOND);
        }
        if (st.ages.size() == 10) {
            return find(FULL);
        }
        st.ages.add(age);
        return st.ages.size() - 1;
    }

    int age(int hearer, int v) {
        return noHearer(hearer) || out(v, 0, 99) ? find(BEYOND) : st.ages.set(hearer, v);
    }

    int ageOf(int hearer) {
        return noHearer(hearer) ? find(BEYOND) : st.ages.get(hearer);
    }

    int to(int tale) {
        if (noTale(tale)) {
            return find(BEYOND);
        }
        int set = 0;
        for (int h = 0; h < st.ages.size(); h++) {
            set += can(row(tale), st.ages.get(h)) ? 1 << h : 0;
        }
        return set;
    }

    int tales(int hearer) {
        if (noHearer(hearer)) {
            return find(BEYOND);
        }
        int set = 0;
        for (int t = 0; t < st.tales.size(); t++) {
            set += can(row(t), st.ages.get(hearer)) ? 1 << t : 0;
        }
        return set;
    }

    private static void aYearGoes(State s) {
        for (int h = 0; h < s.ages.size(); h++) {
            if (s.ages.get(h) < 99) {
                s.ages.set(h, s.ages.get(h) + 1);
            }
        }
        s.year++;
    }

    int years(int n) {
        if (out(n, 1, 60)) {
            return find(BEYOND);
        }
        if (st.year + n > 999) {
            return find(STATE);
        }
        List<Integer> before = new ArrayList<>(st.ages);
        for (int i = 0; i < n; i++) {
            aYearGoes(st);
        }
        int lost = 0;
        for (int t = 0; t < st.tales.size(); t++) {
            for (int h = 0; h < before.size(); h++) {
                if (can(row(t), before.get(h)) && !can(row(t), st.ages.get(h))) {
                    lost++;
                }
            }
        }
        return lost;
    }

    private int firstYear(int tale, int hearer, boolean wanted) {
        State s = st.copy();
        var can = ways(row(tale)).keySet();
        for (int n = 0; n <= 99; n++) {
            if (can.contains(s.ages.get(hearer)) == wanted) {
                return n;
            }
            aYearGoes(s);
        }
        return 100;
    }

    int when(int tale, int hearer) {
        if (noTale(tale) || noHearer(hearer)) {
            return find(BEYOND);
        }
        int n = firstYear(tale, hearer, true);
        return n == 100 ? find(NONE) : n;
    }

    int till(int tale, int hearer) {
        return noTale(tale) || noHearer(hearer) ? find(BEYOND) : firstYear(tale, hearer, false);
    }

    private static int understood(List<Integer> lengths, int age) {
        int many = 0;
        for (int i = 0; i < lengths.size(); i++) {
            int words = 0;
            for (int j = 0; j <= i; j++) {
                words += lengths.get(j);
            }
            many += words <= age ? 1 : 0;
        }
        return many;
    }

    int heard(int tale, int n, int hearer) {
        if (noTale(tale) || out(n, 0, 120) || noHearer(hearer)) {
            return find(BEYOND);
        }
        Saying s = bests(row(tale)).get(n);
        return s == null ? find(NONE) : understood(s.lengths, st.ages.get(hearer));
    }

    int together(int tale, int n, int set) {
        if (noTale(tale) || out(n, 0, 120) || set < 0 || set >= 1 << st.ages.size()) {
            return find(BEYOND);
        }
        List<Part> row = row(tale);
        Integer most = product(row) <= FEW ? togetherByAll(row, n, set) : togetherFrom(row, 0, 0, n, set, new HashMap<>());
        return most == null ? find(NONE) : most;
    }

    private Integer togetherByAll(List<Part> row, int n, int set) {
        Integer most = null;
        for (Saying s : all(row)) {
            if (s.words() == n) {
                int sum = 0;
                for (int h = 0; h < st.ages.size(); h++) {
                    sum += (set >> h & 1) * understood(s.lengths, st.ages.get(h));
                }
                most = most == null ? sum : Math.max(most, sum);
            }
        }
        return most;
    }

    private Integer togetherFrom(List<Part> row, int i, int words, int n, int set, Map<Integer, Integer> known) {
        if (i == row.size()) {
            return words == n ? 0 : null;
        }
        int key = i * 1000 + words;
        if (known.containsKey(key)) {
            return known.get(key);
        }
        Integer most = null;
        for (int l : row.get(i).lengths()) {
            Integer rest = togetherFrom(row, i + 1, words + l, n, set, known);
            int here = 0;
            for (int h = 0; h < st.ages.size(); h++) {
                here += (set >> h & 1) == 1 && words + l <= st.ages.get(h) ? 1 : 0;
            }
            if (rest != null && (most == null || rest + here > most)) {
                most = rest + here;
            }
        }
        known.put(key, most);
        return most;
    }

    /** What comes of a row by HEARERS in turn; null: nothing. */
    private List<Part> passed(List<Part> row, int... hearers) {
        List<Part> left = row;
        for (int h : hearers) {
            while (left != null && !can(left, st.ages.get(h))) {
                left = left.isEmpty() ? null : left.subList(0, left.size() - 1);
            }
        }
        return left;
    }

    private int comes(int tale, int... hearers) {
        List<Part> left = passed(row(tale), hearers);
        return left == null ? 0 : left.size();
    }

    int pass(int tale, int hearer) {
        return noTale(tale) || noHearer(hearer) ? find(BEYOND) : comes(tale, hearer);
    }

    int through(int tale, int first, int second) {
        return noTale(tale) || noHearer(first) || noHearer(second) ? find(BEYOND) : comes(tale, first, second);
    }

    int middle(int tale, int first, int last) {
        if (noTale(tale) || noHearer(first) || noHearer(last) || first == last) {
            return find(BEYOND);
        }
        Integer by = null;
        for (int h = st.ages.size() - 1; h >= 0; h--) {
            if (h != first && h != last && (by == null || comes(tale, first, h, last) >= comes(tale, first, by, last))) {
                by = h;
            }
        }
        return by == null ? find(NONE) : by;
    }

    int chain(int tale) {
        if (noTale(tale)) {
            return find(BEYOND);
        }
        if (st.ages.isEmpty()) {
            return find(NONE);
        }
        int[] hearers = new int[st.ages.size()];
        for (int h = 0; h < hearers.length; h++) {
            hearers[h] = h;
        }
        return comes(tale, hearers);
    }

    int spread(int tale, int far) {
        if (noTale(tale) || out(far, 0, 99)) {
            return find(BEYOND);
        }
        if (st.ages.isEmpty()) {
            return find(NONE);
        }
        List<Integer> have = new ArrayList<>(List.of(0));
        for (int i = 0; i < have.size(); i++) {
            for (int h = 0; h < st.ages.size(); h++) {
                boolean near = Math.abs(st.ages.get(h) - st.ages.get(have.get(i))) <= far;
                if (near && !have.contains(h) && can(row(tale), st.ages.get(h))) {
                    have.add(h);
                }
            }
        }
        int set = 0;
        for (int h : have) {
            set += 1 << h;
        }
        return set;
    }

    int feed(int bytes, int n) {
        if (out(n, 1, 4)) {
            return find(BEYOND);
        }
        if (tape.length() + n > 120) {
            return find(FULL);
        }
        String four = "" + (char) (bytes >>> 24) + (char) (bytes >>> 16 & 255)
            + (char) (bytes >>> 8 & 255) + (char) (bytes & 255);
        tape.append(four.substring(4 - n));
        return tape.length();
    }

    int wipe() {
        int had = tape.length();
        tape.setLength(0);
        return had;
    }

    record Token(String text, int place) {
        boolean isNumber() {
            return text.matches("[0-9]+");
        }

        /** -1 where it is no NUMBER from a to b. */
        int number(int a, int b) {
            if (!isNumber()) {
                return -1;
            }
            java.math.BigInteger n = new java.math.BigInteger(text);
            boolean is = n.compareTo(java.math.BigInteger.valueOf(a)) >= 0
                && n.compareTo(java.math.BigInteger.valueOf(b)) <= 0;
            return is ? n.intValue() : -1;
        }
    }

    int book() {
        String text = tape.toString();
        tape.setLength(0);
        List<Token> tokens = new ArrayList<>();
        var m = java.util.regex.Pattern.compile("[a-z]+|[0-9]+|[^ ]", java.util.regex.Pattern.DOTALL).matcher(text);
        while (m.find()) {
            tokens.add(new Token(m.group(), m.start()));
        }
        tokens.add(new Token("", text.length()));
        State next = st.copy();
        int[] at = {0};
        int items = 0;
        while (true) {
            int fault = item(next, tokens, at);
            if (fault >= 0) {
                return -1 - tokens.get(fault).place;
            }
            items++;
            Token t = tokens.get(at[0]);
            if (t.text.isEmpty()) {
                st = next;
                return items;
            }
            if (!t.text.equals(";")) {
                return -1 - t.place;
            }
            at[0]++;
        }
    }

    /** Which TOKEN is at FAULT, or -1. */
    private static int item(State s, List<Token> tokens, int[] at) {
        int i = at[0];
        String word = tokens.get(i).text;
        if (KINDS.contains(word)) {
            if (s.parts.size() == 16) {
                return i;
            }
            int least = tokens.get(++i).number(1, 12);
            if (least < 0) {
                return i;
            }
            int most = least;
            int worth = 1;
            i++;
            if (tokens.get(i).text.equals("to")) {
                most = tokens.get(++i).number(least, 12);
                if (most < 0) {
                    return i;
                }
                i++;
            }
            if (tokens.get(i).text.equals("worth")) {
                worth = tokens.get(++i).number(0, 9);
                if (worth < 0) {
                    return i;
                }
                i++;
            }
            s.parts.add(new Part(KINDS.indexOf(word), least, most, worth));
        } else if (word.equals("tale")) {
            if (s.tales.size() == 8) {
                return i;
            }
            List<Integer> t = new ArrayList<>();
            i++;
            if (tokens.get(i).text.equals("of")) {
                i++;
                do {
                    int p = tokens.get(i).number(0, s.parts.size() - 1);
                    if (p < 0 || t.size() == 10) {
                        return i;
                    }
                    t.add(p);
                    i++;
                } while (tokens.get(i).isNumber());
            }
            s.tales.add(t);
        } else if (word.equals("hearer")) {
            if (s.ages.size() == 10) {
                return i;
            }
            int age = tokens.get(++i).number(0, 99);
            if (age < 0) {
                return i;
            }
            s.ages.add(age);
            i++;
        } else {
            return i;
        }
        at[0] = i;
        return -1;
    }

    int sheet(int s, int b, int n) {
        if (out(s, 0, 3) || b != 0 && b != 8 && b != 16 && b != 64) {
            return find(BEYOND);
        }
        if (n < 0) {
            return find(SIZE);
        }
        if (n > 40) {
            return find(BEYOND);
        }
        bits[s] = b;
        sheets[s] = b == 0 ? null : new long[n];
        return b == 0 ? 0 : n;
    }

    long write(int s, int i, long v) {
        if (out(s, 0, 3)) {
            return find(BEYOND);
        }
        if (sheets[s] == null) {
            return find(MISSING);
        }
        if (out(i, 0, sheets[s].length - 1)) {
            return find(BEYOND);
        }
        long was = sheets[s][i];
        sheets[s][i] = v << 64 - bits[s] >> 64 - bits[s];
        return was;
    }

    int copy(int s, int from, int t, int to, int n) {
        if (out(s, 0, 3) || out(t, 0, 3)) {
            return find(BEYOND);
        }
        if (sheets[s] == null || sheets[t] == null) {
            return find(MISSING);
        }
        if (bits[s] != bits[t]) {
            return find(KIND);
        }
        boolean low = from < 0 || to < 0 || n < 0;
        if (low || (long) from + n > sheets[s].length || (long) to + n > sheets[t].length) {
            return find(BEYOND);
        }
        long[] were = sheets[s].clone();
        for (int i = 0; i < n; i++) {
            sheets[t][to + i] = were[from + i];
        }
        return n;
    }

    int lays(int s) {
        if (out(s, 0, 3)) {
            return find(BEYOND);
        }
        if (sheets[s] == null) {
            return find(MISSING);
        }
        int came = 0;
        for (int i = 0; i < sheets[s].length; i++) {
            long v = sheets[s][i];
            if (i < st.ages.size() && v >= 0 && v <= 99) {
                st.ages.set(i, (int) v);
                came++;
            }
        }
        return came;
    }

    int say(int s, int tale, int n) {
        if (out(s, 0, 3)) {
            return find(BEYOND);
        }
        if (sheets[s] == null) {
            return find(MISSING);
        }
        if (noTale(tale) || out(n, 0, 120)) {
            return find(BEYOND);
        }
        Saying best = bests(row(tale)).get(n);
        if (best == null) {
            return find(NONE);
        }
        int i = 0;
        while (i < sheets[s].length && i < best.lengths.size()) {
            sheets[s][i] = best.lengths.get(i);
            i++;
        }
        return i;
    }

    int read(int s, int tale, int hearer) {
        if (out(s, 0, 3)) {
            return find(BEYOND);
        }
        if (sheets[s] == null) {
            return find(MISSING);
        }
        if (noTale(tale) || noHearer(hearer)) {
            return find(BEYOND);
        }
        List<Part> row = row(tale);
        long words = 0;
        for (int i = 0; i < Math.max(row.size(), sheets[s].length); i++) {
            boolean lacks = i >= row.size() || i >= sheets[s].length;
            if (lacks || !longs(row.get(i)).contains(sheets[s][i])) {
                return 1 + i;
            }
            words += sheets[s][i];
        }
        return words == st.ages.get(hearer) ? 0 : 41;
    }

    private static List<Long> longs(Part p) {
        List<Long> list = new ArrayList<>();
        for (int l : p.lengths()) {
            list.add((long) l);
        }
        return list;
    }

    int image() {
        kept = st.copy();
        return 1;
    }

    int undo() {
        if (kept == null) {
            return find(NONE);
        }
        st = kept.copy();
        return st.parts.size();
    }

    int tear() {
        int was = kept == null ? 0 : 1;
        kept = null;
        return was;
    }

    int count(int what) {
        if (out(what, 0, 4)) {
            return find(BEYOND);
        }
        return new int[] {st.parts.size(), st.tales.size(), st.ages.size(), tape.length(), st.year}[what];
    }

    int status(int which) {
        if (out(which, -1, 6)) {
            return find(BEYOND);
        }
        int sum = 0;
        for (int f : findings.values()) {
            sum += f;
        }
        return which == -1 ? sum : findings.getOrDefault(BEYOND - which, 0);
    }
}
