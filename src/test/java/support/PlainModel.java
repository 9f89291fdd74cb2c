import java.util.ArrayDeque;
import java.util.ArrayList;
import java.util.Arrays;
import java.util.List;

/**
 * The document once more, square by square and as slowly as it likes, to hold the class against.
 * It shares no code and no way of holding the state with it.
 */
public final class PlainModel {
    static final int LANE = 9;
    static final int NONE = -1;

    static final class Ground {
        int w = 4;
        int h = 4;
        int[] soil = new int[16];
        int[] owner = new int[16];
        int road = 0;
        int well = NONE;
        int oak = NONE;
        int small = 1;
        List<int[]> heirs = new ArrayList<>();

        Ground() {
            Arrays.fill(owner, NONE);
        }

        Ground twin() {
            Ground g = new Ground();
            g.w = w;
            g.h = h;
            g.soil = soil.clone();
            g.owner = owner.clone();
            g.road = road;
            g.well = well;
            g.oak = oak;
            g.small = small;
            for (int[] heir : heirs) {
                g.heirs.add(heir.clone());
            }
            return g;
        }

        void size(int nw, int nh) {
            w = nw;
            h = nh;
            soil = new int[w * h];
            owner = new int[w * h];
            Arrays.fill(owner, NONE);
            well = NONE;
            oak = NONE;
        }

        int n() {
            return w * h;
        }

        boolean square(long s) {
            return s >= 0 && s < n();
        }

        boolean isHeir(int p) {
            return p >= 0 && p < heirs.size();
        }

        boolean mayOwn(int o) {
            return isHeir(o) || o == LANE || o == NONE;
        }

        int[] beside(int s) {
            int r = s / w;
            int c = s % w;
            int[] four = {r > 0 ? s - w : NONE, c > 0 ? s - 1 : NONE, c < w - 1 ? s + 1 : NONE, r < h - 1 ? s + w : NONE};
            return Arrays.stream(four).filter(x -> x != NONE).toArray();
        }

        boolean atRoad(int s) {
            switch (road) {
                case 0: return s / w == 0;
                case 1: return s % w == w - 1;
                case 2: return s / w == h - 1;
                default: return s % w == 0;
            }
        }

        boolean[] of(int[] owners, int o) {
            boolean[] in = new boolean[n()];
            for (int s = 0; s < n(); s++) {
                in[s] = owners[s] == o;
            }
            return in;
        }

        boolean[] whole() {
            boolean[] in = new boolean[n()];
            Arrays.fill(in, true);
            return in;
        }

        /** heir: 0 share, 1 fond, 2.. worths */
        int worth(int p, boolean[] in) {
            int sum = 0;
            for (int s = 0; s < n(); s++) {
                if (in[s]) {
                    sum += heirs.get(p)[2 + soil[s]];
                    if (s == oak && heirs.get(p)[1] == 1) {
                        sum += 20;
                    }
                }
            }
            return sum;
        }

        int allShares() {
            int sum = 0;
            for (int[] heir : heirs) {
                sum += heir[0];
            }
            return sum;
        }

        boolean[] reach(int from, boolean[] in) {
            boolean[] seen = new boolean[n()];
            ArrayDeque<Integer> todo = new ArrayDeque<>();
            if (in[from]) {
                seen[from] = true;
                todo.add(from);
            }
            while (!todo.isEmpty()) {
                for (int t : beside(todo.remove())) {
                    if (in[t] && !seen[t]) {
                        seen[t] = true;
                        todo.add(t);
                    }
                }
            }
            return seen;
        }

        int pieces(boolean[] in) {
            boolean[] done = new boolean[n()];
            int pieces = 0;
            for (int s = 0; s < n(); s++) {
                if (in[s] && !done[s]) {
                    pieces++;
                    boolean[] one = reach(s, in);
                    for (int t = 0; t < n(); t++) {
                        done[t] |= one[t];
                    }
                }
            }
            return pieces;
        }

        int hedge(int[] owners) {
            int pairs = 0;
            for (int s = 0; s < n(); s++) {
                for (int t : beside(s)) {
                    if (s < t && owners[s] != owners[t]) {
                        pairs++;
                    }
                }
            }
            return pairs;
        }

        boolean toRoad(int p, int[] owners) {
            boolean[] lane = of(owners, LANE);
            for (int s = 0; s < n(); s++) {
                if (owners[s] != p) {
                    continue;
                }
                if (atRoad(s)) {
                    return true;
                }
                for (int t : beside(s)) {
                    boolean[] way = reach(t, lane);
                    for (int u = 0; u < n(); u++) {
                        if (way[u] && atRoad(u)) {
                            return true;
                        }
                    }
                }
            }
            return false;
        }

        boolean toWell(int p, int[] owners) {
            if (well == NONE || owners[well] == LANE || owners[well] == p) {
                return true;
            }
            for (int t : beside(well)) {
                if (owners[t] == p) {
                    return true;
                }
            }
            return false;
        }

        boolean faultOf(int fault, int p, int[] owners) {
            boolean[] his = of(owners, p);
            int size = 0;
            for (boolean in : his) {
                size += in ? 1 : 0;
            }
            switch (fault) {
                case 2: return pieces(his) > 1 || size < small;
                case 3: return !toRoad(p, owners);
                case 4: return !toWell(p, owners);
                default: return worth(p, his) * allShares() < heirs.get(p)[0] * worth(p, whole());
            }
        }

        int[] verdict(int[] owners) {
            for (int s = 0; s < n(); s++) {
                if (owners[s] == NONE) {
                    return new int[] {1, s};
                }
            }
            for (int fault = 2; fault <= 5; fault++) {
                for (int p = 0; p < heirs.size(); p++) {
                    if (faultOf(fault, p, owners)) {
                        return new int[] {fault, p};
                    }
                }
            }
            return new int[] {0, NONE};
        }

        /** 0 first, 1 second, 2 lane */
        int sideOf(int code, int s) {
            int kind = code / 1000;
            int a = code / 100 % 10;
            int b = code / 10 % 10;
            int c = code % 10;
            int r = s / w;
            int col = s % w;
            switch (kind) {
                case 0: return s < 8 * a + b ? 0 : 1;
                case 1: return col < a ? 0 : 1;
                case 2: return col < (r < b ? a : c) ? 0 : 1;
                case 3: return col < a ? 0 : col == a ? 2 : 1;
                case 4: return r < a ? 0 : 1;
                case 5: return col < a && r < b ? 0 : 1;
                default: return col < (r < b ? a : c) ? 1 : 0;
            }
        }

        boolean[] side(int code, int side) {
            boolean[] in = new boolean[n()];
            for (int s = 0; s < n(); s++) {
                in[s] = sideOf(code, s) == side;
            }
            return in;
        }

        int count(int code, int side) {
            int sum = 0;
            for (boolean in : side(code, side)) {
                sum += in ? 1 : 0;
            }
            return sum;
        }

        /** Every code of the kinds wanted, in rising order. */
        List<Integer> codes(String kinds) {
            List<Integer> codes = new ArrayList<>();
            for (int code = 0; code < 7000; code++) {
                int kind = code / 1000;
                int a = code / 100 % 10;
                int b = code / 10 % 10;
                int c = code % 10;
                boolean fine;
                switch (kind) {
                    case 1: fine = a >= 1 && a <= w - 1 && b == 0 && c == 0; break;
                    case 2: fine = a <= w && c <= w && b >= 1 && b <= h - 1; break;
                    case 4: fine = a >= 1 && a <= h - 1 && b == 0 && c == 0; break;
                    case 5: fine = a >= 1 && a <= w && b >= 1 && b <= h && c == 0 && !(a == w && b == h); break;
                    default: fine = false;
                }
                if (fine && kinds.indexOf((char) ('0' + kind)) >= 0) {
                    codes.add(code);
                }
            }
            return codes;
        }

        int[] two() {
            int[] best = null;
            if (heirs.size() != 2) {
                return null;
            }
            for (int code : codes("124")) {
                for (int way = 0; way < 2; way++) {
                    int[] owners = new int[n()];
                    for (int s = 0; s < n(); s++) {
                        owners[s] = sideOf(code, s) == 0 ? way : 1 - way;
                    }
                    best = better(best, owners, code, way);
                }
            }
            return best;
        }

        int[] three() {
            int[] best = null;
            if (heirs.size() != 3) {
                return null;
            }
            for (int one : codes("145")) {
                for (int other : codes("145")) {
                    int[] owners = new int[n()];
                    for (int s = 0; s < n(); s++) {
                        owners[s] = sideOf(one, s) == 0 ? 0 : sideOf(other, s) == 0 ? 1 : 2;
                    }
                    best = better(best, owners, one, other);
                }
            }
            return best;
        }

        int[] better(int[] best, int[] owners, int x, int y) {
            int hedge = hedge(owners);
            if (best != null && hedge >= best[2]) {
                return best;
            }
            return verdict(owners)[0] != 0 ? best : new int[] {x, y, hedge};
        }

        int change() {
            int least = hedge(owner);
            int best = NONE;
            for (int s = 0; s < n(); s++) {
                for (int p = 0; p < heirs.size(); p++) {
                    boolean has = false;
                    for (int t : beside(s)) {
                        has |= owner[t] == p;
                    }
                    if (!isHeir(owner[s]) || !has) {
                        continue;
                    }
                    int[] owners = owner.clone();
                    owners[s] = p;
                    int hedge = hedge(owners);
                    if (hedge < least && verdict(owners)[0] == 0) {
                        least = hedge;
                        best = 10 * s + p;
                    }
                }
            }
            return best;
        }
    }

    Ground g = new Ground();
    Ground image = null;
    /** A shelf: null, a code (one element) or a row (its sort, then its elements). */
    final Integer[] cuts = new Integer[8];
    final long[][] rows = new long[8][];
    final int[] sorts = new int[8];
    final int[] refusals = new int[8];
    int fault = NONE;
    final List<Integer> trace = new ArrayList<>();

    int no(int refusal) {
        refusals[-refusal]++;
        return refusal;
    }

    static boolean shelf(int s) {
        return s >= 0 && s <= 7;
    }

    /** What refuses where a row ('r') or a cut ('c') is wanted on each shelf; 0 if nothing does. */
    int wanted(String what, int... shelves) {
        boolean other = false;
        boolean nothing = false;
        for (int i = 0; i < shelves.length; i++) {
            int s = shelves[i];
            if (!shelf(s)) {
                return -1;
            }
            other |= what.charAt(i) == 'r' ? cuts[s] != null : rows[s] != null;
            nothing |= cuts[s] == null && rows[s] == null;
        }
        return other ? -2 : nothing ? -3 : 0;
    }

    boolean[] in(long set) {
        boolean[] in = new boolean[g.n()];
        for (int s = 0; s < g.n(); s++) {
            in[s] = (set >>> s & 1) == 1;
        }
        return in;
    }

    long bits(boolean[] in) {
        long set = 0;
        for (int s = 0; s < in.length; s++) {
            set |= in[s] ? 1L << s : 0;
        }
        return set;
    }

    boolean there(long set) {
        return bits(in(set)) == set;
    }

    int row(int s, int sort, int n) {
        if (!shelf(s)) {
            return no(-1);
        }
        if (n < 0) {
            return no(-4);
        }
        if (sort < 0 || sort > 3) {
            return no(-6);
        }
        if (n > 100) {
            return no(-7);
        }
        cuts[s] = null;
        rows[s] = new long[n];
        sorts[s] = sort;
        return 1;
    }

    int set(int s, int i, long v) {
        int bad = wanted("r", s);
        if (bad != 0) {
            return no(bad);
        }
        if (i < 0 || i >= rows[s].length) {
            return no(-5);
        }
        int shift = new int[] {56, 48, 32, 0}[sorts[s]];
        rows[s][i] = v << shift >> shift;
        return 1;
    }

    int copy(int p, int q, int i, int j, int n) {
        int bad = wanted("rr", p, q);
        if (bad == -1) {
            return no(bad);
        }
        if (bad == -2 || (rows[p] != null && rows[q] != null && sorts[p] != sorts[q])) {
            return no(-2);
        }
        if (bad != 0) {
            return no(bad);
        }
        if (n < 0) {
            return no(-4);
        }
        if (i < 0 || j < 0 || (long) i + n > rows[p].length || (long) j + n > rows[q].length) {
            return no(-5);
        }
        long[] was = rows[p].clone();
        for (int x = 0; x < n; x++) {
            rows[q][j + x] = was[i + x];
        }
        return 1;
    }

    long element(int s, int i) {
        return shelf(s) && rows[s] != null && i >= 0 && i < rows[s].length ? rows[s][i] : 0;
    }

    int cut(int s, int code) {
        if (!shelf(s) || code > 6999) {
            return no(-1);
        }
        if (code < -1) {
            return no(-6);
        }
        if (String.valueOf(code < 0 ? 0 : code % 1000).indexOf('9') >= 0) {
            return no(-6);
        }
        rows[s] = null;
        cuts[s] = code < 0 ? null : (Integer) code;
        return code < 0 ? 0 : 1;
    }

    int holds(int s) {
        if (!shelf(s)) {
            return NONE;
        }
        return cuts[s] != null ? cuts[s] : rows[s] != null ? 10000 + sorts[s] : NONE;
    }

    static final int[] ABOVE = {NONE, 0, 0, 0, 1, 1, 2};

    int says(int s, int kind) {
        int bad = wanted("c", s);
        if (bad == -1 || kind < 0 || kind > 6) {
            return no(-1);
        }
        if (bad != 0) {
            return no(bad);
        }
        int code = cuts[s];
        int up = code / 1000;
        while (up != NONE && up != kind) {
            up = ABOVE[up];
        }
        if (up == NONE) {
            return no(-2);
        }
        int a = code / 100 % 10;
        int b = code / 10 % 10;
        int[] told = {g.count(code, 0), g.count(code, 1), b, g.count(code, 2), a, a * b, b};
        return told[kind];
    }

    long side(int s, int side) {
        if (wanted("c", s) != 0 || side < 0 || side > 2) {
            return 0;
        }
        return bits(g.side(cuts[s], side));
    }

    /** One letter after another; -1 or the fault. */
    static final String[] WORDS = {"size", "soil", "road", "well", "oak", "small", "heir"};
    static final int[] NUMBERS = {2, 3, 1, 1, 1, 1, 7};
    int items;

    int read(Ground d, int[] text) {
        items = 0;
        String word = "";
        int of = NONE;
        List<Integer> told = new ArrayList<>();
        String digits = null;
        int start = 0;
        for (int i = 0; i <= text.length; i++) {
            int c = i < text.length ? text[i] : 256;
            boolean digit = c >= '0' && c <= '9';
            if (digits != null && digits.length() >= 1 && (digits.length() == 2 || !digit)) {
                int number = Integer.parseInt(digits);
                if (!mayBe(d, of, told, number)) {
                    return start;
                }
                told.add(number);
                digits = null;
                if (told.size() == NUMBERS[of]) {
                    tell(d, of, told);
                    items++;
                    if (i == text.length) {
                        return NONE;
                    }
                    if (c != ';') {
                        return i;
                    }
                    word = "";
                    of = NONE;
                    told.clear();
                    continue;
                }
            }
            if (of == NONE) {
                String longer = word + (char) Math.max(0, Math.min(c, 65535));
                boolean stands = false;
                for (int x = 0; x < 7; x++) {
                    if (x == 6 && d.heirs.size() == 5) {
                        continue;
                    }
                    stands |= WORDS[x].startsWith(longer) && c != 256;
                    of = WORDS[x].equals(longer) ? x : of;
                }
                if (!stands) {
                    return i;
                }
                word = longer;
            } else if (digits == null) {
                if (c != ' ') {
                    return i;
                }
                digits = "";
            } else {
                if (!digit) {
                    return i;
                }
                start = digits.isEmpty() ? i : start;
                digits += (char) c;
            }
        }
        return text.length;
    }

    static boolean mayBe(Ground d, int word, List<Integer> told, int v) {
        int k = told.size();
        switch (word) {
            case 0: return v >= 2 && v <= 8;
            case 1: return k == 0 ? v <= 5 : v < d.n() && (k == 1 || v >= told.get(1));
            case 2: return v <= 3;
            case 3: case 4: return v < d.n();
            case 5: return v <= 20;
            default: return k > 0 || v >= 1 && v <= 9;
        }
    }

    static void tell(Ground d, int word, List<Integer> t) {
        switch (word) {
            case 0: d.size(t.get(0), t.get(1)); break;
            case 1:
                for (int s = t.get(1); s <= t.get(2); s++) {
                    d.soil[s] = t.get(0);
                }
                break;
            case 2: d.road = t.get(0); break;
            case 3: d.well = t.get(0); break;
            case 4: d.oak = t.get(0); break;
            case 5: d.small = t.get(0); break;
            default:
                d.heirs.add(new int[] {t.get(0), 0, t.get(1), t.get(2), t.get(3), t.get(4), t.get(5), t.get(6)});
        }
    }

    int field(int s) {
        int bad = wanted("r", s);
        if (bad != 0) {
            return no(bad);
        }
        int[] text = new int[rows[s].length];
        for (int i = 0; i < text.length; i++) {
            text[i] = (int) rows[s][i];
        }
        Ground d = g.twin();
        fault = read(d, text);
        if (fault != NONE) {
            return no(-6);
        }
        g = d;
        return items;
    }

    int size(int w, int h) {
        if (w < 2 || w > 8 || h < 2 || h > 8) {
            return no(-6);
        }
        g.size(w, h);
        return 1;
    }

    int soil(int square, int v) {
        if (!g.square(square) || v < 0 || v > 5) {
            return no(-1);
        }
        int was = g.soil[square];
        g.soil[square] = v;
        return was;
    }

    int place(int what, int v) {
        boolean fine;
        switch (what) {
            case 0: fine = v >= 0 && v <= 3; break;
            case 1: case 2: fine = v == NONE || g.square(v); break;
            case 3: fine = v >= 0 && v <= 20; break;
            default: fine = false;
        }
        if (!fine) {
            no(-6);
            return -16;
        }
        int was;
        switch (what) {
            case 0: was = g.road; g.road = v; break;
            case 1: was = g.well; g.well = v; break;
            case 2: was = g.oak; g.oak = v; break;
            default: was = g.small; g.small = v;
        }
        return was;
    }

    int heir(int share) {
        if (share < 1 || share > 9) {
            return no(-6);
        }
        if (g.heirs.size() == 5) {
            return no(-7);
        }
        g.heirs.add(new int[] {share, 0, 10, 10, 10, 10, 10, 10});
        return g.heirs.size() - 1;
    }

    int worths(int heir, int soil, int v) {
        if (!g.isHeir(heir) || soil < 0 || soil > 5) {
            return no(-1);
        }
        if (v < 0 || v > 99) {
            return no(-6);
        }
        int was = g.heirs.get(heir)[2 + soil];
        g.heirs.get(heir)[2 + soil] = v;
        return was;
    }

    int fond(int heir, boolean is) {
        if (!g.isHeir(heir)) {
            return no(-1);
        }
        int was = g.heirs.get(heir)[1];
        g.heirs.get(heir)[1] = is ? 1 : 0;
        return was == g.heirs.get(heir)[1] ? 0 : 1;
    }

    int heirOf(int heir, int what) {
        if (!g.isHeir(heir)) {
            return no(-5);
        }
        if (what == 0 || what == 1) {
            return g.heirs.get(heir)[what];
        }
        if (what == 2) {
            return Long.bitCount(piece(heir));
        }
        return what >= 10 && what <= 15 ? g.heirs.get(heir)[what - 8] : no(-5);
    }

    int worth(int heir, long set) {
        return g.isHeir(heir) && there(set) ? g.worth(heir, in(set)) : no(-1);
    }

    int owner(int square) {
        return g.square(square) ? g.owner[square] : NONE;
    }

    int own(long set, int owner) {
        if (!there(set) || !g.mayOwn(owner)) {
            return no(-1);
        }
        int n = 0;
        for (int s = 0; s < g.n(); s++) {
            if (in(set)[s]) {
                g.owner[s] = owner;
                n++;
            }
        }
        return n;
    }

    int lay(int s, int first, int second) {
        int bad = wanted("c", s);
        if (bad == -1 || !g.mayOwn(first) || !g.mayOwn(second)) {
            return no(-1);
        }
        if (bad != 0) {
            return no(bad);
        }
        int changed = 0;
        for (int x = 0; x < g.n(); x++) {
            int to = new int[] {first, second, LANE}[g.sideOf(cuts[s], x)];
            changed += g.owner[x] == to ? 0 : 1;
            g.owner[x] = to;
        }
        return changed;
    }

    int owners(int s) {
        int bad = wanted("r", s);
        if (bad != 0) {
            return no(bad);
        }
        int n = 0;
        for (int x = 0; x < g.n(); x++) {
            int to = x < rows[s].length ? (int) rows[s][x] : NONE;
            g.owner[x] = g.mayOwn(to) ? to : NONE;
            n += g.isHeir(g.owner[x]) ? 1 : 0;
        }
        return n;
    }

    long piece(int owner) {
        return g.mayOwn(owner) ? bits(g.of(g.owner, owner)) : 0;
    }

    int hedge() {
        return g.hedge(g.owner);
    }

    int faulty() {
        return g.verdict(g.owner)[0];
    }

    int whose() {
        return g.verdict(g.owner)[1];
    }

    int parts(long set) {
        return there(set) ? g.pieces(in(set)) : 0;
    }

    int two(int what) {
        int[] best = what < 0 || what > 2 ? null : g.two();
        return best == null ? no(-5) : best[what];
    }

    int three(int what) {
        int[] best = what < 0 || what > 2 ? null : g.three();
        return best == null ? no(-5) : best[what];
    }

    int choose(int cutter, int taker, int what) {
        if (!g.isHeir(cutter) || !g.isHeir(taker)) {
            return no(-1);
        }
        if (what < 0 || what > 3) {
            return no(-5);
        }
        if (cutter == taker) {
            return no(-6);
        }
        int best = NONE;
        int least = 0;
        for (int code : g.codes("124")) {
            int apart = Math.abs(g.worth(cutter, g.side(code, 0)) - g.worth(cutter, g.side(code, 1)));
            if (best == NONE || apart < least) {
                best = code;
                least = apart;
            }
        }
        int side = g.worth(taker, g.side(best, 1)) > g.worth(taker, g.side(best, 0)) ? 1 : 0;
        int[] told = {best, side, g.worth(taker, g.side(best, side)), g.worth(cutter, g.side(best, 1 - side))};
        return told[what];
    }

    int envies(int heir) {
        if (!g.isHeir(heir)) {
            return no(-1);
        }
        int envied = 0;
        for (int p = 0; p < g.heirs.size(); p++) {
            if (g.worth(heir, g.of(g.owner, p)) > g.worth(heir, g.of(g.owner, heir))) {
                envied += 1 << p;
            }
        }
        return envied;
    }

    int evens(int heir) {
        if (!g.isHeir(heir)) {
            no(-1);
            return -1000001;
        }
        long all = (long) g.heirs.get(heir)[0] * g.worth(heir, g.whole());
        long own = (long) g.worth(heir, g.of(g.owner, heir)) * g.allShares();
        return (int) ((all - own) / g.allShares());
    }

    int better() {
        int change = g.change();
        return change == NONE ? no(-5) : change;
    }

    int mend(int n) {
        if (n < 1 || n > 20) {
            return no(-6);
        }
        int done = 0;
        for (int change = g.change(); done < n && change != NONE; change = g.change()) {
            g.owner[change / 10] = change % 10;
            done++;
        }
        return done;
    }

    boolean fit(int code, long[] row) {
        for (int x = 0; x < g.n() && x < row.length; x++) {
            int told = (int) row[x];
            if ((told == 0 || told == 1) && g.sideOf(code, x) != told) {
                return false;
            }
        }
        return true;
    }

    int fits(int s, int t) {
        int bad = wanted("cr", s, t);
        return bad != 0 ? no(bad) : fit(cuts[s], rows[t]) ? 1 : 0;
    }

    int old(int t) {
        int bad = wanted("r", t);
        if (bad != 0) {
            return no(bad);
        }
        int n = 0;
        for (int code : g.codes("1245")) {
            n += fit(code, rows[t]) ? 1 : 0;
        }
        return n;
    }

    long sure(int t, int side) {
        int bad = wanted("r", t);
        if (bad != 0) {
            return no(bad);
        }
        if (side != 0 && side != 1) {
            return no(-5);
        }
        boolean any = false;
        boolean[] sure = g.whole();
        for (int code : g.codes("1245")) {
            if (fit(code, rows[t])) {
                any = true;
                for (int x = 0; x < g.n(); x++) {
                    sure[x] &= g.sideOf(code, x) == side;
                }
            }
        }
        return any ? bits(sure) : 0;
    }

    int judge(int s) {
        int bad = wanted("r", s);
        if (bad != 0) {
            return no(bad) - 10;
        }
        for (int p = 0; p < g.heirs.size(); p++) {
            if (g.worth(p, g.of(g.owner, p)) != (int) element(s, p)) {
                return p;
            }
        }
        return NONE;
    }

    /** The bodies of each kind by act; 0: it has none. */
    static final int[][] BODIES = {{10, 11, 12}, {20, 0, 0}, {0, 30, 0}, {0, 0, 40}, {51, 50, 0}, {0, 0, 60}, {70, 71, 0}};

    int run(int shelf, int code, int from, int act, int x) {
        int kind = from;
        while (BODIES[kind][act] == 0) {
            kind = ABOVE[kind];
        }
        int own = code / 1000;
        int up = ABOVE[kind];
        int k = code / 100 % 10;
        trace.add(BODIES[kind][act]);
        switch (BODIES[kind][act]) {
            case 10: return x + shelf;
            case 11: return run(shelf, code, own, 0, x) * 2;
            case 12:
                int weight = run(shelf, code, own, 1, x);
                return weight ^ run(shelf, code, own, 0, x - k);
            case 20: return run(shelf, code, up, 0, x) + k;
            case 30: return run(shelf, code, up, 1, x) * 3;
            case 40: return run(shelf, code, up, 2, x) - shelf;
            case 50: return run(shelf, code, up, 1, x + 1);
            case 51: return -run(shelf, code, up, 0, x);
            case 60: return run(shelf, code, up, 2, x) ^ 5;
            case 70: return run(shelf, code, up, 0, x) * 2;
            default: return run(shelf, code, up, 1, x - k);
        }
    }

    int act(int s, int act, int x) {
        trace.clear();
        if (wanted("c", s) != 0 || act < 0 || act > 2) {
            return 0;
        }
        return run(s, cuts[s], cuts[s] / 1000, act, x);
    }

    int trace(int i) {
        return i >= 0 && i < 20 && i < trace.size() ? trace.get(i) : NONE;
    }

    int image() {
        image = g.twin();
        return g.heirs.size();
    }

    int restore() {
        if (image == null) {
            return no(-6);
        }
        g = image.twin();
        return g.heirs.size();
    }

    int status(int what) {
        if (what >= 11 && what <= 17) {
            return refusals[what - 10];
        }
        switch (what) {
            case 0: return g.w;
            case 1: return g.h;
            case 2: return g.heirs.size();
            case 3: return g.road;
            case 4: return g.well;
            case 5: return g.oak;
            case 6: return g.small;
            case 7:
                int n = 0;
                for (int o : g.owner) {
                    n += g.isHeir(o) ? 1 : 0;
                }
                return n;
            case 8: return trace.size();
            default: return NONE;
        }
    }
}
