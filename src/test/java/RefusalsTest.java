/**
 * Every call of the face that can be refused, in each way the document names, and those that never are: what it
 * answers, that it is counted as it should be (or not at all), and that nothing else changes by it.
 */
public final class RefusalsTest {
    private static final int MAX = Integer.MAX_VALUE;
    private static final int MIN = Integer.MIN_VALUE;

    private interface Call {
        long on(BrothersField x);
    }

    /**
     * Two heirs on 3 by 2, of which square 5 is nobody's; shelves 0 and 1 rows of bytes with 4 and 2 elements, 2 of
     * longs, 3 a STRAIGHT, 4 a LANE, 5 a text that is faulty, 6 a TOLD, 7 nothing; an image that is unlike the rest.
     */
    private static BrothersField made() {
        BrothersField x = Made.board(3, 2, 1, 2);
        x.worths(0, 1, 7);
        x.worths(1, 5, 99);
        x.soil(4, 1);
        x.soil(1, 5);
        x.place(0, 1);
        x.place(1, 2);
        x.place(2, 4);
        x.place(3, 2);
        Made.owners(x, "001 0L.");
        x.image();
        x.fond(0, true);
        x.place(3, 3);
        Made.owners(x, "001 1L.");
        Made.numbers(x, 0, 0, 1, -2, 3, 4);
        Made.numbers(x, 1, 0, 5, 6);
        Made.numbers(x, 2, 3, 1L << 40, 9);
        x.cut(3, 1100);
        x.cut(4, 3100);
        Made.text(x, 5, 1, "well 6");
        x.field(5);
        x.cut(6, 6213);
        x.act(6, 1, 5);
        return x;
    }

    private static BrothersField madeWithFive() {
        BrothersField x = made();
        x.heir(1);
        x.heir(9);
        x.heir(5);
        return x;
    }

    private static void check(String what, BrothersField x, BrothersField like, Call call, long answer, int counted, String butFor) {
        Due.is(what, call.on(x), answer);
        for (int kind = 1; kind <= 7; kind++) {
            int more = kind == counted ? 1 : 0;
            Due.is(what + ": how many of -" + kind, x.status(10 + kind), like.status(10 + kind) + more);
        }
        Snapshot.of(x).due(what, Snapshot.of(like), butFor);
        x.restore();
        like.restore();
        Snapshot.ofField(x).due(what + ", restore", Snapshot.ofField(like), "");
    }

    private static void refused(String what, int answer, Call call) {
        check(what, made(), made(), call, answer, -answer, "");
    }

    private static void refusedAs(String what, int answer, int counted, Call call) {
        check(what, made(), made(), call, answer, -counted, "");
    }

    private static void notRefused(String what, long answer, Call call) {
        check(what, made(), made(), call, answer, 0, "");
    }

    private static void rowsRefused() {
        refused("row(8, 0, 1)", -1, x -> x.row(8, 0, 1));
        refused("row(-1, 0, 1)", -1, x -> x.row(-1, 0, 1));
        refused("row(MAX, 0, 1)", -1, x -> x.row(MAX, 0, 1));
        refused("row(8, 0, -1): -1 ahead of -4", -1, x -> x.row(8, 0, -1));
        refused("row(8, 4, 1): -1 ahead of -6", -1, x -> x.row(8, 4, 1));
        refused("row(8, 0, 101): -1 ahead of -7", -1, x -> x.row(8, 0, 101));
        refused("row(0, 0, -1)", -4, x -> x.row(0, 0, -1));
        refused("row(3, 0, -1) on a cut", -4, x -> x.row(3, 0, -1));
        refused("row(7, 0, MIN)", -4, x -> x.row(7, 0, MIN));
        refused("row(0, 4, -1): -4 ahead of -6", -4, x -> x.row(0, 4, -1));
        refused("row(0, 4, 1)", -6, x -> x.row(0, 4, 1));
        refused("row(0, -1, 1)", -6, x -> x.row(0, -1, 1));
        refused("row(3, MIN, 1) on a cut", -6, x -> x.row(3, MIN, 1));
        refused("row(0, 4, 101): -6 ahead of -7", -6, x -> x.row(0, 4, 101));
        refused("row(0, 0, 101)", -7, x -> x.row(0, 0, 101));
        refused("row(3, 3, MAX) on a cut", -7, x -> x.row(3, 3, MAX));
        refused("set(8, 0, 1)", -1, x -> x.set(8, 0, 1));
        refused("set(-1, 0, 1)", -1, x -> x.set(-1, 0, 1));
        refused("set(8, 9, 1): -1 ahead of -5", -1, x -> x.set(8, 9, 1));
        refused("set(3, 0, 1) on a cut", -2, x -> x.set(3, 0, 1));
        refused("set(3, -1, 1): -2 ahead of -5", -2, x -> x.set(3, -1, 1));
        refused("set(7, 0, 1) on nothing", -3, x -> x.set(7, 0, 1));
        refused("set(7, -1, 1): -3 ahead of -5", -3, x -> x.set(7, -1, 1));
        refused("set(0, 4, 1)", -5, x -> x.set(0, 4, 1));
        refused("set(0, -1, 1)", -5, x -> x.set(0, -1, 1));
        refused("set(2, MAX, 1)", -5, x -> x.set(2, MAX, 1));
    }

    private static void copiesRefused() {
        refused("copy(8, 0, 0, 0, 1)", -1, x -> x.copy(8, 0, 0, 0, 1));
        refused("copy(0, 8, 0, 0, 1)", -1, x -> x.copy(0, 8, 0, 0, 1));
        refused("copy(-1, 0, 0, 0, 1)", -1, x -> x.copy(-1, 0, 0, 0, 1));
        refused("copy(0, -1, 0, 0, 1)", -1, x -> x.copy(0, -1, 0, 0, 1));
        refused("copy(3, 8, 0, 0, 1): -1 ahead of -2", -1, x -> x.copy(3, 8, 0, 0, 1));
        refused("copy(8, 3, 0, 0, 1): -1 ahead of -2", -1, x -> x.copy(8, 3, 0, 0, 1));
        refused("copy(7, 8, 0, 0, 1): -1 ahead of -3", -1, x -> x.copy(7, 8, 0, 0, 1));
        refused("copy(8, 7, 0, 0, 1): -1 ahead of -3", -1, x -> x.copy(8, 7, 0, 0, 1));
        refused("copy(8, 0, 0, 0, -1): -1 ahead of -4", -1, x -> x.copy(8, 0, 0, 0, -1));
        refused("copy(0, 8, 9, 0, 1): -1 ahead of -5", -1, x -> x.copy(0, 8, 9, 0, 1));
        refused("copy(3, 0, 0, 0, 1) from a cut", -2, x -> x.copy(3, 0, 0, 0, 1));
        refused("copy(0, 3, 0, 0, 1) to a cut", -2, x -> x.copy(0, 3, 0, 0, 1));
        refused("copy(3, 3, 0, 0, 0) of a cut", -2, x -> x.copy(3, 3, 0, 0, 0));
        refused("copy(0, 2, 0, 0, 1) of two sorts", -2, x -> x.copy(0, 2, 0, 0, 1));
        refused("copy(2, 0, 0, 0, 0) of two sorts", -2, x -> x.copy(2, 0, 0, 0, 0));
        refused("copy(3, 7, 0, 0, 1): -2 ahead of -3", -2, x -> x.copy(3, 7, 0, 0, 1));
        refused("copy(7, 3, 0, 0, 1): -2 ahead of -3", -2, x -> x.copy(7, 3, 0, 0, 1));
        refused("copy(0, 3, 0, 0, -1): -2 ahead of -4", -2, x -> x.copy(0, 3, 0, 0, -1));
        refused("copy(0, 2, 0, 0, -1): -2 ahead of -4", -2, x -> x.copy(0, 2, 0, 0, -1));
        refused("copy(0, 2, 9, 9, 1): -2 ahead of -5", -2, x -> x.copy(0, 2, 9, 9, 1));
        refused("copy(0, 7, 0, 0, 1) to nothing", -3, x -> x.copy(0, 7, 0, 0, 1));
        refused("copy(7, 0, 0, 0, 1) from nothing", -3, x -> x.copy(7, 0, 0, 0, 1));
        refused("copy(7, 7, 0, 0, 0) of nothing", -3, x -> x.copy(7, 7, 0, 0, 0));
        refused("copy(7, 0, 0, 0, -1): -3 ahead of -4", -3, x -> x.copy(7, 0, 0, 0, -1));
        refused("copy(0, 7, 9, 0, 1): -3 ahead of -5", -3, x -> x.copy(0, 7, 9, 0, 1));
        refused("copy(0, 1, 0, 0, -1)", -4, x -> x.copy(0, 1, 0, 0, -1));
        refused("copy(0, 1, 0, 0, MIN)", -4, x -> x.copy(0, 1, 0, 0, MIN));
        refused("copy(0, 1, -1, 9, -1): -4 ahead of -5", -4, x -> x.copy(0, 1, -1, 9, -1));
        refused("copy(0, 1, -1, 0, 1)", -5, x -> x.copy(0, 1, -1, 0, 1));
        refused("copy(0, 1, 0, -1, 1)", -5, x -> x.copy(0, 1, 0, -1, 1));
        refused("copy(0, 1, -1, 0, 0)", -5, x -> x.copy(0, 1, -1, 0, 0));
        refused("copy(0, 1, 4, 0, 1)", -5, x -> x.copy(0, 1, 4, 0, 1));
        refused("copy(0, 1, 3, 0, 2)", -5, x -> x.copy(0, 1, 3, 0, 2));
        refused("copy(0, 1, 0, 2, 1)", -5, x -> x.copy(0, 1, 0, 2, 1));
        refused("copy(0, 1, 0, 1, 2)", -5, x -> x.copy(0, 1, 0, 1, 2));
        refused("copy(0, 1, 0, 0, 3)", -5, x -> x.copy(0, 1, 0, 0, 3));
        refused("copy(0, 0, MAX, 0, 1)", -5, x -> x.copy(0, 0, MAX, 0, 1));
        refused("copy(0, 0, 1, 0, MAX)", -5, x -> x.copy(0, 0, 1, 0, MAX));
        refused("copy(0, 0, 0, MAX, MAX)", -5, x -> x.copy(0, 0, 0, MAX, MAX));
    }

    private static void cutsRefused() {
        refused("cut(8, 1100)", -1, x -> x.cut(8, 1100));
        refused("cut(-1, 1100)", -1, x -> x.cut(-1, 1100));
        refused("cut(8, -1)", -1, x -> x.cut(8, -1));
        refused("cut(3, 7000)", -1, x -> x.cut(3, 7000));
        refused("cut(3, MAX)", -1, x -> x.cut(3, MAX));
        refused("cut(8, 1900): -1 ahead of -6", -1, x -> x.cut(8, 1900));
        refused("cut(8, -2): -1 ahead of -6", -1, x -> x.cut(8, -2));
        refused("cut(3, 7999): -1 ahead of -6", -1, x -> x.cut(3, 7999));
        refused("cut(3, 900)", -6, x -> x.cut(3, 900));
        refused("cut(3, 1090)", -6, x -> x.cut(3, 1090));
        refused("cut(3, 6889)", -6, x -> x.cut(3, 6889));
        refused("cut(0, 4999) on a row", -6, x -> x.cut(0, 4999));
        refused("cut(3, -2)", -6, x -> x.cut(3, -2));
        refused("cut(7, MIN)", -6, x -> x.cut(7, MIN));
        refused("says(8, 0)", -1, x -> x.says(8, 0));
        refused("says(-1, 0)", -1, x -> x.says(-1, 0));
        refused("says(3, 7)", -1, x -> x.says(3, 7));
        refused("says(3, -1)", -1, x -> x.says(3, -1));
        refused("says(0, 7): -1 ahead of -2", -1, x -> x.says(0, 7));
        refused("says(7, 7): -1 ahead of -3", -1, x -> x.says(7, 7));
        refused("says(0, 0) of a row", -2, x -> x.says(0, 0));
        refused("says(7, 0) of nothing", -3, x -> x.says(7, 0));
        refused("says(3, 2): a STRAIGHT is no BENT", -2, x -> x.says(3, 2));
        refused("says(3, 4): a STRAIGHT is no ALONG", -2, x -> x.says(3, 4));
        refused("says(4, 1): a LANE is no STRAIGHT", -2, x -> x.says(4, 1));
        refused("says(6, 1): a TOLD is no STRAIGHT", -2, x -> x.says(6, 1));
        refused("lay(8, 0, 1)", -1, x -> x.lay(8, 0, 1));
        refused("lay(-1, 0, 1)", -1, x -> x.lay(-1, 0, 1));
        refused("lay(3, 2, 1)", -1, x -> x.lay(3, 2, 1));
        refused("lay(3, 0, 2)", -1, x -> x.lay(3, 0, 2));
        refused("lay(3, -2, 0)", -1, x -> x.lay(3, -2, 0));
        refused("lay(3, 0, 10)", -1, x -> x.lay(3, 0, 10));
        refused("lay(0, 2, 0): -1 ahead of -2", -1, x -> x.lay(0, 2, 0));
        refused("lay(7, 0, 8): -1 ahead of -3", -1, x -> x.lay(7, 0, 8));
        refused("lay(0, 0, 1) of a row", -2, x -> x.lay(0, 0, 1));
        refused("lay(7, 0, 1) of nothing", -3, x -> x.lay(7, 0, 1));
    }

    private static void fieldRefused() {
        refused("field(8)", -1, x -> x.field(8));
        refused("field(-1)", -1, x -> x.field(-1));
        refused("field(3) of a cut", -2, x -> x.field(3));
        refused("field(7) of nothing", -3, x -> x.field(7));
        check("field(0) of what is no text", made(), made(), x -> x.field(0), -6, 6, "fault()");
        check("field(5) of a faulty text", made(), made(), x -> x.field(5), -6, 6, "");
        for (int wrong : new int[] {1, 9, 0, -1, MIN, MAX}) {
            refused("size(" + wrong + ", 4)", -6, x -> x.size(wrong, 4));
            refused("size(4, " + wrong + ")", -6, x -> x.size(4, wrong));
        }
        for (int square : new int[] {6, -1, 64, MIN, MAX}) {
            refused("soil(" + square + ", 1)", -1, x -> x.soil(square, 1));
        }
        for (int soil : new int[] {6, -1, MIN, MAX}) {
            refused("soil(0, " + soil + ")", -1, x -> x.soil(0, soil));
        }
        int[][] places = {{0, -1}, {0, 4}, {1, -2}, {1, 6}, {2, -2}, {2, 6}, {3, -1}, {3, 21}, {4, 0}, {-1, 0}, {MAX, MIN}, {1, MAX}, {2, MIN}};
        for (int[] p : places) {
            refusedAs("place(" + p[0] + ", " + p[1] + ")", -16, -6, x -> x.place(p[0], p[1]));
        }
    }

    private static void heirsRefused() {
        for (int share : new int[] {0, 10, -1, MIN, MAX}) {
            refused("heir(" + share + ")", -6, x -> x.heir(share));
        }
        check("a sixth heir", madeWithFive(), madeWithFive(), x -> x.heir(1), -7, 7, "");
        check("a sixth heir with a share of 10: -6 ahead of -7", madeWithFive(), madeWithFive(), x -> x.heir(10), -6, 6, "");
        int[][] worths = {{2, 0, 1, -1}, {-1, 0, 1, -1}, {0, 6, 1, -1}, {0, -1, 1, -1}, {2, 0, 100, -1}, {0, 6, -1, -1}, {0, 0, 100, -6},
            {1, 5, -1, -6}, {1, 5, MAX, -6}, {MIN, MAX, MIN, -1}};
        for (int[] w : worths) {
            refused("worths(" + w[0] + ", " + w[1] + ", " + w[2] + ")", w[3], x -> x.worths(w[0], w[1], w[2]));
        }
        for (int heir : new int[] {2, -1, 5, 9, MIN, MAX}) {
            refused("fond(" + heir + ", true)", -1, x -> x.fond(heir, true));
            refused("fond(" + heir + ", false)", -1, x -> x.fond(heir, false));
            refused("heirOf(" + heir + ", 0)", -5, x -> x.heirOf(heir, 0));
            refused("heirOf(" + heir + ", 10)", -5, x -> x.heirOf(heir, 10));
            refused("worth(" + heir + ", 1)", -1, x -> x.worth(heir, 1));
            refused("envies(" + heir + ")", -1, x -> x.envies(heir));
            refusedAs("evens(" + heir + ")", -1000001, -1, x -> x.evens(heir));
            refused("choose(" + heir + ", 0, 0)", -1, x -> x.choose(heir, 0, 0));
            refused("choose(0, " + heir + ", 0)", -1, x -> x.choose(0, heir, 0));
            refused("choose(" + heir + ", 0, 4): -1 ahead of -5", -1, x -> x.choose(heir, 0, 4));
            refused("choose(" + heir + ", " + heir + ", 0): -1 ahead of -6", -1, x -> x.choose(heir, heir, 0));
        }
        for (int what : new int[] {3, 9, 16, -1, MIN, MAX}) {
            refused("heirOf(1, " + what + ")", -5, x -> x.heirOf(1, what));
        }
        for (long set : new long[] {64, 65, 1L << 32, Long.MIN_VALUE, -1}) {
            refused("worth(0, " + set + ")", -1, x -> x.worth(0, set));
            refused("own(" + set + ", 0)", -1, x -> x.own(set, 0));
        }
        for (int owner : new int[] {2, 4, 5, 6, 8, 10, -2, MIN, MAX}) {
            refused("own(1, " + owner + ")", -1, x -> x.own(1, owner));
            refused("own(0, " + owner + ")", -1, x -> x.own(0, owner));
        }
    }

    private static void rowsOfSquaresRefused() {
        refused("owners(8)", -1, x -> x.owners(8));
        refused("owners(-1)", -1, x -> x.owners(-1));
        refused("owners(3) of a cut", -2, x -> x.owners(3));
        refused("owners(7) of nothing", -3, x -> x.owners(7));
        refused("fits(8, 0)", -1, x -> x.fits(8, 0));
        refused("fits(3, 8)", -1, x -> x.fits(3, 8));
        refused("fits(-1, -1)", -1, x -> x.fits(-1, -1));
        refused("fits(0, 8): -1 ahead of -2", -1, x -> x.fits(0, 8));
        refused("fits(8, 3): -1 ahead of -2", -1, x -> x.fits(8, 3));
        refused("fits(7, 8): -1 ahead of -3", -1, x -> x.fits(7, 8));
        refused("fits(8, 7): -1 ahead of -3", -1, x -> x.fits(8, 7));
        refused("fits(0, 1) of a row", -2, x -> x.fits(0, 1));
        refused("fits(3, 4) a cut", -2, x -> x.fits(3, 4));
        refused("fits(0, 3) the other way about", -2, x -> x.fits(0, 3));
        refused("fits(0, 7): -2 ahead of -3", -2, x -> x.fits(0, 7));
        refused("fits(7, 3): -2 ahead of -3", -2, x -> x.fits(7, 3));
        refused("fits(7, 0) of nothing", -3, x -> x.fits(7, 0));
        refused("fits(3, 7) nothing", -3, x -> x.fits(3, 7));
        refused("fits(7, 7)", -3, x -> x.fits(7, 7));
        refused("old(8)", -1, x -> x.old(8));
        refused("old(-1)", -1, x -> x.old(-1));
        refused("old(3) of a cut", -2, x -> x.old(3));
        refused("old(7) of nothing", -3, x -> x.old(7));
        refused("sure(8, 0)", -1, x -> x.sure(8, 0));
        refused("sure(-1, 2): -1 ahead of -5", -1, x -> x.sure(-1, 2));
        refused("sure(3, 0) of a cut", -2, x -> x.sure(3, 0));
        refused("sure(3, 2): -2 ahead of -5", -2, x -> x.sure(3, 2));
        refused("sure(7, 0) of nothing", -3, x -> x.sure(7, 0));
        refused("sure(7, -1): -3 ahead of -5", -3, x -> x.sure(7, -1));
        for (int side : new int[] {2, -1, MIN, MAX}) {
            refused("sure(0, " + side + ")", -5, x -> x.sure(0, side));
        }
        refusedAs("judge(8)", -11, -1, x -> x.judge(8));
        refusedAs("judge(-1)", -11, -1, x -> x.judge(-1));
        refusedAs("judge(3) of a cut", -12, -2, x -> x.judge(3));
        refusedAs("judge(7) of nothing", -13, -3, x -> x.judge(7));
    }

    private static void bestRefused() {
        for (int what : new int[] {3, -1, MIN, MAX}) {
            refused("two(" + what + ")", -5, x -> x.two(what));
            refused("three(" + what + ")", -5, x -> x.three(what));
        }
        for (int what = 0; what < 3; what++) {
            int w = what;
            refused("three(" + what + ") of two heirs", -5, x -> x.three(w));
            check("two(" + what + ") of five heirs", madeWithFive(), madeWithFive(), x -> x.two(w), -5, 5, "");
            check("three(" + what + ") of five heirs", madeWithFive(), madeWithFive(), x -> x.three(w), -5, 5, "");
        }
        for (int what : new int[] {4, -1, MIN, MAX}) {
            refused("choose(0, 1, " + what + ")", -5, x -> x.choose(0, 1, what));
            refused("choose(1, 1, " + what + "): -5 ahead of -6", -5, x -> x.choose(1, 1, what));
        }
        for (int what = 0; what < 4; what++) {
            int w = what;
            refused("choose(1, 1, " + what + ")", -6, x -> x.choose(1, 1, w));
        }
        refused("better() with a square of nobody's", -5, x -> x.better());
        for (int n : new int[] {0, 21, -1, MIN, MAX}) {
            refused("mend(" + n + ")", -6, x -> x.mend(n));
        }
        check("restore() without an image", new BrothersField(), new BrothersField(), x -> x.restore(), -6, 6, "");
    }

    private static void neverRefused() {
        int[][] noElement = {{0, 4}, {0, -1}, {0, MAX}, {1, 2}, {3, 0}, {7, 0}, {8, 0}, {-1, 0}, {MIN, MIN}};
        for (int[] e : noElement) {
            notRefused("element(" + e[0] + ", " + e[1] + ")", 0, x -> x.element(e[0], e[1]));
        }
        for (int s : new int[] {7, 8, -1, MIN, MAX}) {
            notRefused("holds(" + s + ")", -1, x -> x.holds(s));
        }
        int[][] noSide = {{3, 3}, {3, -1}, {3, 2}, {0, 0}, {7, 1}, {8, 0}, {-1, 2}, {MAX, MIN}};
        for (int[] e : noSide) {
            notRefused("side(" + e[0] + ", " + e[1] + ")", 0, x -> x.side(e[0], e[1]));
        }
        for (int square : new int[] {5, 6, -1, 64, MIN, MAX}) {
            notRefused("owner(" + square + ")", -1, x -> x.owner(square));
        }
        for (int owner : new int[] {2, 5, 8, 10, -2, MIN, MAX}) {
            notRefused("piece(" + owner + ")", 0, x -> x.piece(owner));
        }
        for (long set : new long[] {0, 64, 65, -1, Long.MIN_VALUE}) {
            notRefused("parts(" + set + ")", 0, x -> x.parts(set));
        }
        for (int i : new int[] {5, 19, 20, -1, MIN, MAX}) {
            notRefused("trace(" + i + ")", -1, x -> x.trace(i));
        }
        for (int what : new int[] {9, 10, 18, -1, MIN, MAX}) {
            notRefused("status(" + what + ")", -1, x -> x.status(what));
        }
        notRefused("mend(20) where nothing is better", 0, x -> x.mend(20));
        notRefused("fault()", 5, x -> x.fault());
        notRefused("hedge()", 6, x -> x.hedge());
        notRefused("faulty()", 1, x -> x.faulty());
        notRefused("whose()", 5, x -> x.whose());
        notRefused("own(0, 1)", 0, x -> x.own(0, 1));
        notRefused("fond(0, true) once more", 0, x -> x.fond(0, true));
        notRefused("copy of none at the ends", 1, x -> x.copy(0, 1, 4, 2, 0));
        notRefused("place(1, 2) once more", 2, x -> x.place(1, 2));
    }

    private static void searchesChangeNothing() {
        for (int what = 0; what < 3; what++) {
            int w = what;
            notRefused("two(" + what + ")", 0, x -> Math.min(0, x.two(w)));
        }
        for (int what = 0; what < 4; what++) {
            int w = what;
            notRefused("choose(0, 1, " + what + ")", 0, x -> Math.min(0, x.choose(0, 1, w)));
        }
        notRefused("fits(3, 0)", 0, x -> x.fits(3, 0));
        notRefused("old(0)", 1, x -> Math.min(1, x.old(0)));
        notRefused("sure(0, 1)", 1, x -> x.sure(0, 1) & 1);
        notRefused("envies(0)", 0, x -> x.envies(0) & ~31);
        notRefused("says(3, 1)", 4, x -> x.says(3, 1));
        notRefused("judge(0)", 0, x -> x.judge(0));
    }

    private static void counts() {
        BrothersField x = new BrothersField();
        for (int time = 1; time <= 9; time++) {
            x.row(8, 0, 0);
            x.says(8, 0);
            x.judge(9);
            x.evens(0);
            x.place(7, 7);
            x.size(0, 0);
            x.heirOf(0, 0);
            x.row(0, 0, -5);
            x.row(0, 0, 500);
            x.old(0);
            x.cut(1, 0);
            x.old(1);
            int[] counted = {4, 1, 1, 1, 1, 2, 1};
            for (int kind = 1; kind <= 7; kind++) {
                Due.is("refusals -" + kind + " after " + time, x.status(10 + kind), counted[kind - 1] * time);
            }
        }
        x.image();
        x.heirOf(0, 0);
        x.restore();
        Due.is("an image keeps no counts", x.status(15), 10);
    }

    public static void main(String[] args) {
        rowsRefused();
        copiesRefused();
        cutsRefused();
        fieldRefused();
        heirsRefused();
        rowsOfSquaresRefused();
        bestRefused();
        neverRefused();
        searchesChangeNothing();
        counts();
        Due.end();
    }
}
