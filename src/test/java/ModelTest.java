/** Long runs of calls, the same ones each time, on the class and on the plain model side by side. */
public final class ModelTest {
    private static final int RUNS = 1500;
    private static final int CALLS = 512;

    private long seed;
    private final BrothersField x = new BrothersField();
    private final PlainModel m = new PlainModel();
    private final int run;
    private int calls = 0;
    private boolean wrong = false;
    private final StringBuilder log = new StringBuilder();

    private ModelTest(int run) {
        this.run = run;
        this.seed = run * 2654435761L + 12345;
    }

    private int pick(int n) {
        seed = seed * 6364136223846793005L + 1442695040888963407L;
        return (int) ((seed >>> 33) % n);
    }

    private int some(int... these) {
        return these[pick(these.length)];
    }

    /** Mostly a number from 0 to n less 1, now and then one that is beside that or far off. */
    private int near(int n) {
        if (pick(25) == 0) {
            return some(-1, -2, n, n + 1, 9, 10, Integer.MIN_VALUE, Integer.MAX_VALUE, 65536, -1000);
        }
        return pick(n);
    }

    private long set() {
        int n = m.g.n();
        long all = n == 64 ? -1L : (1L << n) - 1;
        switch (pick(8)) {
            case 0: return all;
            case 1: return 1L << pick(64);
            case 2: return ((long) pick(1 << 30) << 34 ^ (long) pick(1 << 30) << 15 ^ pick(1 << 15)) & all;
            case 3: return pick(3) == 0 ? -1L : 0;
            default: return 1L << pick(n) | 1L << pick(n) | 1L << pick(n);
        }
    }

    private int owner() {
        return pick(5) == 0 ? some(9, -1, -2, 5, 8, 10) : near(Math.max(1, m.g.heirs.size()));
    }

    private int code() {
        int w = m.g.w;
        int h = m.g.h;
        switch (pick(9)) {
            case 0: return 1000 + 100 * pick(w + 1);
            case 1: case 2: return some(2000, 6000) + 100 * pick(w + 1) + 10 * pick(h + 1) + pick(w + 1);
            case 3: return 3000 + 100 * pick(w + 1);
            case 4: return 4000 + 100 * pick(h + 1);
            case 5: return 5000 + 100 * pick(w + 1) + 10 * pick(h + 1);
            case 6: return pick(7) * 1000 + pick(9) * 100 + pick(9) * 10 + pick(9);
            case 7: return pick(900);
            default: return pick(3) > 0 ? -1 : some(-2, 7000, 6999, 1900, 1090, 1009, 10000, Integer.MIN_VALUE, Integer.MAX_VALUE, -1000);
        }
    }

    private void due(String call, long got, long want) {
        calls++;
        log.append(call).append(" = ").append(got).append('\n');
        if (got != want && !wrong) {
            wrong = true;
            System.out.println(log.length() < 3000 ? log : log.substring(log.length() - 3000));
        }
        Due.is("run " + run + ", call " + calls + ": " + call, got, want);
    }

    private String item() {
        int n = m.g.n();
        switch (pick(9)) {
            case 0: return "size " + (2 + pick(7)) + " " + (2 + pick(7));
            case 1: case 2: {
                int a = pick(n);
                return "soil " + pick(6) + " " + a + " " + Math.min(n - 1, a + pick(6));
            }
            case 3: return "road " + pick(4);
            case 4: return "well " + two(pick(n));
            case 5: return "oak " + two(pick(n));
            case 6: return "small " + pick(21);
            default: {
                StringBuilder s = new StringBuilder("heir " + (1 + pick(9)));
                for (int i = 0; i < 6; i++) {
                    s.append(' ').append(two(pick(100)));
                }
                return s.toString();
            }
        }
    }

    private String two(int v) {
        return v < 10 && pick(3) == 0 ? "0" + v : "" + v;
    }

    private void read() {
        StringBuilder text = new StringBuilder(item());
        while (pick(3) > 0) {
            text.append(';').append(item());
        }
        text.setLength(Math.min(text.length(), 100));
        if (pick(2) == 0) {
            int at = pick(text.length());
            switch (pick(4)) {
                case 0: text.setLength(at); break;
                case 1: text.insert(at, " ;0129sx".charAt(pick(8))); break;
                case 2: text.setCharAt(at, " ;0129somwh".charAt(pick(11))); break;
                default: text.deleteCharAt(at);
            }
        }
        text.setLength(Math.min(text.length(), 100));
        int s = pick(8);
        int sort = pick(4);
        due("row(" + s + ", " + sort + ", " + text.length() + ")", x.row(s, sort, text.length()), m.row(s, sort, text.length()));
        for (int i = 0; i < text.length(); i++) {
            long v = text.charAt(i) + ((long) pick(3) << 40);
            due("set(" + s + ", " + i + ", " + v + ")", x.set(s, i, v), m.set(s, i, v));
        }
        due("field " + text, x.field(s), m.field(s));
        due("fault", x.fault(), m.fault);
    }

    private void told() {
        int s = pick(8);
        int sort = pick(4);
        int n = Math.min(100, pick(m.g.n() + 5));
        due("row", x.row(s, sort, n), m.row(s, sort, n));
        int code = code();
        for (int i = 0; i < n; i++) {
            int side = code >= 0 && code < 7000 && i < m.g.n() ? m.g.sideOf(code, i) : 2;
            long v = pick(40) == 0 ? pick(2) : pick(3) == 0 ? side : side == 0 && pick(3) == 0 ? 0 : 2 + ((long) pick(2) << 32);
            due("set(" + s + ", " + i + ", " + v + ")", x.set(s, i, v), m.set(s, i, v));
        }
        due("old", x.old(s), m.old(s));
        due("sure 0", x.sure(s, 0), m.sure(s, 0));
        due("sure 1", x.sure(s, 1), m.sure(s, 1));
    }

    private void handOut() {
        int s = pick(8);
        int n = Math.min(100, m.g.n() - pick(2) * pick(3));
        due("row", x.row(s, 0, n), m.row(s, 0, n));
        int heirs = Math.max(1, m.g.heirs.size());
        for (int i = 0; i < n; i++) {
            int o = pick(12) == 0 ? some(9, 9, 9, 9, -1, 7) : (i * heirs / m.g.n() + (pick(6) == 0 ? 1 : 0)) % heirs;
            due("set(" + s + ", " + i + ", " + o + ")", x.set(s, i, o), m.set(s, i, o));
        }
        due("owners", x.owners(s), m.owners(s));
    }

    private void start() {
        int w = 2 + pick(pick(2) == 0 ? 3 : 7);
        int h = 2 + pick(pick(2) == 0 ? 3 : 7);
        if (pick(3) > 0) {
            due("size(" + w + ", " + h + ")", x.size(w, h), m.size(w, h));
        }
        int heirs = some(0, 1, 2, 2, 2, 3, 3, 3, 4, 5);
        for (int p = 0; p < heirs; p++) {
            int share = pick(2) == 0 ? 1 : 1 + pick(9);
            due("heir(" + share + ")", x.heir(share), m.heir(share));
            if (pick(2) == 0) {
                for (int v = 0; v < 6; v++) {
                    int worth = pick(100);
                    due("worths(" + p + ", " + v + ", " + worth + ")", x.worths(p, v, worth), m.worths(p, v, worth));
                }
            }
        }
        for (int i = pick(2) * pick(m.g.n()); i > 0; i--) {
            int s = pick(m.g.n());
            int v = pick(6);
            due("soil(" + s + ", " + v + ")", x.soil(s, v), m.soil(s, v));
        }
    }

    private void look() {
        for (int i = 0; i < 19; i++) {
            due("status(" + i + ")", x.status(i), m.status(i));
        }
        for (int o : new int[] {0, 1, 2, 3, 4, 9, -1}) {
            due("piece(" + o + ")", x.piece(o), m.piece(o));
        }
        for (int s = 0; s < 8; s++) {
            due("holds(" + s + ")", x.holds(s), m.holds(s));
        }
    }

    private void callOfShelves() {
        int s = near(8);
        int t = near(8);
        switch (pick(15)) {
            case 0: { int sort = near(4); int n = pick(9) == 0 ? some(-1, 100, 101) : pick(20);
                due("row(" + s + ", " + sort + ", " + n + ")", x.row(s, sort, n), m.row(s, sort, n)); break; }
            case 1: { int i = near(20); long v = pick(2) == 0 ? pick(10) : (long) pick(1 << 30) * pick(1 << 30) * 5 - 3;
                due("set(" + s + ", " + i + ", " + v + ")", x.set(s, i, v), m.set(s, i, v)); break; }
            case 2: { int i = near(5); int j = near(5); int n = near(6);
                due("copy(" + s + ", " + t + ", " + i + ", " + j + ", " + n + ")", x.copy(s, t, i, j, n), m.copy(s, t, i, j, n)); break; }
            case 3: { int i = near(20); due("element(" + s + ", " + i + ")", x.element(s, i), m.element(s, i)); break; }
            case 4: case 5: case 6: { int c = code(); due("cut(" + s + ", " + c + ")", x.cut(s, c), m.cut(s, c)); break; }
            case 7: due("holds(" + s + ")", x.holds(s), m.holds(s)); break;
            case 8: { int k = near(7); due("says(" + s + ", " + k + ")", x.says(s, k), m.says(s, k)); break; }
            case 9: { int k = near(3); due("side(" + s + ", " + k + ")", x.side(s, k), m.side(s, k)); break; }
            case 10: { int a = near(3); int v = pick(3) == 0 ? pick(1 << 30) * 4 + 1 : pick(200) - 100;
                due("act(" + s + ", " + a + ", " + v + ")", x.act(s, a, v), m.act(s, a, v));
                for (int i = -1; i < 11; i++) {
                    due("trace(" + i + ")", x.trace(i), m.trace(i));
                }
                break; }
            case 11: { int a = owner(); int b = owner();
                due("lay(" + s + ", " + a + ", " + b + ")", x.lay(s, a, b), m.lay(s, a, b)); break; }
            case 12: due("fits(" + s + ", " + t + ")", x.fits(s, t), m.fits(s, t)); break;
            case 13: due("judge(" + s + ")", x.judge(s), m.judge(s)); break;
            default:
                if (pick(3) == 0) {
                    due("owners(" + s + ")", x.owners(s), m.owners(s));
                } else if (pick(2) == 0) {
                    due("field(" + s + ")", x.field(s), m.field(s));
                } else {
                    int side = near(2);
                    due("old(" + s + ")", x.old(s), m.old(s));
                    due("sure(" + s + ", " + side + ")", x.sure(s, side), m.sure(s, side));
                }
        }
    }

    private void callOfField() {
        int p = near(Math.max(1, m.g.heirs.size()));
        int q = near(Math.max(1, m.g.heirs.size()));
        switch (pick(22)) {
            case 0: if (pick(4) == 0) { int w = near(7) + 2; int h = near(7) + 2;
                due("size(" + w + ", " + h + ")", x.size(w, h), m.size(w, h)); } break;
            case 1: { int s = near(m.g.n()); int v = near(6); due("soil(" + s + ", " + v + ")", x.soil(s, v), m.soil(s, v)); break; }
            case 2: { int w = near(4); int v = w == 0 ? near(4) : w == 3 ? (pick(4) == 0 ? near(21) : pick(3)) : pick(3) == 0 ? -1 : near(m.g.n());
                due("place(" + w + ", " + v + ")", x.place(w, v), m.place(w, v)); break; }
            case 3: if (pick(6) == 0) { int v = near(10); due("heir(" + v + ")", x.heir(v), m.heir(v)); } break;
            case 4: { int v = near(6); int to = near(100);
                due("worths(" + p + ", " + v + ", " + to + ")", x.worths(p, v, to), m.worths(p, v, to)); break; }
            case 5: { boolean is = pick(2) == 0; due("fond(" + p + ", " + is + ")", x.fond(p, is), m.fond(p, is)); break; }
            case 6: { int w = near(17); due("heirOf(" + p + ", " + w + ")", x.heirOf(p, w), m.heirOf(p, w)); break; }
            case 7: { long set = set(); due("worth(" + p + ", " + set + ")", x.worth(p, set), m.worth(p, set)); break; }
            case 8: { int s = near(m.g.n()); due("owner(" + s + ")", x.owner(s), m.owner(s)); break; }
            case 9: { long set = set(); int o = owner(); due("own(" + set + ", " + o + ")", x.own(set, o), m.own(set, o)); break; }
            case 10: { int o = owner(); due("piece(" + o + ")", x.piece(o), m.piece(o)); break; }
            case 11: due("hedge", x.hedge(), m.hedge()); break;
            case 12: due("faulty", x.faulty(), m.faulty()); due("whose", x.whose(), m.whose()); break;
            case 13: { long set = set(); due("parts(" + set + ")", x.parts(set), m.parts(set)); break; }
            case 14: { int w = near(3); due("two(" + w + ")", x.two(w), m.two(w)); break; }
            case 15: if (m.g.n() <= 20 || pick(20) == 0) { int w = near(3); due("three(" + w + ")", x.three(w), m.three(w)); } break;
            case 16: { int w = near(4); due("choose(" + p + ", " + q + ", " + w + ")", x.choose(p, q, w), m.choose(p, q, w)); break; }
            case 17: due("envies(" + p + ")", x.envies(p), m.envies(p)); break;
            case 18: due("evens(" + p + ")", x.evens(p), m.evens(p)); break;
            case 19: due("better", x.better(), m.better()); break;
            case 20: { int n = near(21); due("mend(" + n + ")", x.mend(n), m.mend(n)); break; }
            default:
                if (pick(2) == 0) {
                    due("image", x.image(), m.image());
                } else {
                    due("restore", x.restore(), m.restore());
                }
        }
    }

    /** Owners that are as good as they can be often, so that faults past the first are met. */
    private void part() {
        if (m.g.heirs.size() == 2 && m.g.two() != null) {
            int[] best = m.g.two();
            due("two(0)", x.two(0), best[0]);
            due("two(1)", x.two(1), best[1]);
            due("two(2)", x.two(2), best[2]);
            int s = pick(8);
            due("cut", x.cut(s, best[0]), m.cut(s, best[0]));
            due("lay", x.lay(s, best[1], 1 - best[1]), m.lay(s, best[1], 1 - best[1]));
        } else {
            handOut();
        }
        int s = pick(m.g.n());
        int o = owner();
        due("own(" + (1L << s) + ", " + o + ")", x.own(1L << s, o), m.own(1L << s, o));
        due("faulty", x.faulty(), m.faulty());
        due("whose", x.whose(), m.whose());
        due("better", x.better(), m.better());
        int n = 1 + pick(20);
        due("mend(" + n + ")", x.mend(n), m.mend(n));
    }

    /** Heirs to whom all is worth nothing have their due: so lanes, wells and roads come to be judged. */
    private void contented() {
        for (int p = 0; p < m.g.heirs.size(); p++) {
            for (int v = 0; v < 6; v++) {
                due("worths(" + p + ", " + v + ", 0)", x.worths(p, v, 0), m.worths(p, v, 0));
            }
        }
        for (int i = 0; i < 4; i++) {
            int s = pick(8);
            int code = some(3000 + 100 * pick(m.g.w), 1000 + 100 * (1 + pick(m.g.w)), 4000 + 100 * pick(m.g.h));
            due("cut(" + s + ", " + code + ")", x.cut(s, code), m.cut(s, code));
            due("lay(" + s + ", 0, 1)", x.lay(s, 0, 1), m.lay(s, 0, 1));
            int well = pick(m.g.n());
            due("place(1, " + well + ")", x.place(1, well), m.place(1, well));
            int road = pick(4);
            due("place(0, " + road + ")", x.place(0, road), m.place(0, road));
            long set = 1L << pick(m.g.n());
            int o = some(9, 0, 1);
            due("own(" + set + ", " + o + ")", x.own(set, o), m.own(set, o));
            due("faulty", x.faulty(), m.faulty());
            due("whose", x.whose(), m.whose());
            due("better", x.better(), m.better());
            due("three(2)", x.three(2), m.three(2));
        }
    }

    private void all() {
        start();
        while (calls < CALLS - 150) {
            switch (pick(61)) {
                case 60: contented(); break;
                case 0: read(); break;
                case 1: told(); break;
                case 2: handOut(); break;
                case 3: case 4: case 5: part(); break;
                default:
                    if (pick(2) == 0) {
                        callOfShelves();
                    } else {
                        callOfField();
                    }
            }
        }
        look();
    }

    public static void main(String[] args) {
        int runs = args.length > 0 ? Integer.parseInt(args[0]) : RUNS;
        for (int run = 0; run < runs && Due.wrong() < 5; run++) {
            new ModelTest(run).all();
        }
        Due.end();
    }
}
