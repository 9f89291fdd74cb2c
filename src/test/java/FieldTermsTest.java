/** The document's terms of the FIELD, of CUTS, OWNERS and FAULTS: sentence by sentence, each at its edges. */
public final class FieldTermsTest {
    private static final int MAX = Integer.MAX_VALUE;
    private static final int MIN = Integer.MIN_VALUE;
    private static final int[][] SIZES = {{2, 2}, {2, 8}, {8, 2}, {3, 5}, {7, 4}, {8, 7}, {8, 8}};

    private static String sentence = "";

    private static void due(String call, long got, long want) {
        Due.is("'" + sentence + "': " + call, got, want);
    }

    private static long all(int w, int h) {
        return w * h == 64 ? -1L : (1L << w * h) - 1;
    }

    private static void verdict(BrothersField x, String what, int fault, int whose) {
        due(what + ": faulty", x.faulty(), fault);
        due(what + ": whose", x.whose(), whose);
    }

    private static void sizes() {
        sentence = "A FIELD is W by H (2 to 8 each; 4 by 4 at first)";
        BrothersField x = new BrothersField();
        due("w", x.status(0), 4);
        due("h", x.status(1), 4);
        for (int w = 2; w <= 8; w++) {
            for (int h = 2; h <= 8; h++) {
                due("size(" + w + ", " + h + ")", x.size(w, h), 1);
                due("w", x.status(0), w);
                due("h", x.status(1), h);
            }
        }
        for (int wrong : new int[] {1, 9, 0, -1, -2, -8, 10, 258, MIN, MAX}) {
            due("size(" + wrong + ", 4)", x.size(wrong, 4), -6);
            due("size(4, " + wrong + ")", x.size(4, wrong), -6);
        }
        due("w stays", x.status(0), 8);
        due("h stays", x.status(1), 8);
    }

    private static void squares() {
        sentence = "SQUARES 0 to W times H less 1, row by row";
        for (int[] size : SIZES) {
            int n = size[0] * size[1];
            BrothersField x = Made.board(size[0], size[1], 1);
            due("own(all)", x.own(all(size[0], size[1]), 0), n);
            due("the first", x.owner(0), 0);
            due("the last", x.owner(n - 1), 0);
            due("beyond", x.owner(n), -1);
            due("below", x.owner(-1), -1);
            due("soil of the last", x.soil(n - 1, 1), 0);
            due("soil of one beyond", x.soil(n, 1), -1);
            due("soil of one below", x.soil(-1, 1), -1);
            due("well at the last", x.place(1, n - 1), -1);
            due("well beyond", x.place(1, n), -16);
            due("oak at the last", x.place(2, n - 1), -1);
            due("oak beyond", x.place(2, n), -16);
            if (n < 64) {
                due("a set with one beyond", x.own(1L << n, 0), -1);
                due("parts of one beyond", x.parts(1L << n), 0);
                due("worth of one beyond", x.worth(0, 1L << n), -1);
            }
            due("all of them as a set", x.parts(all(size[0], size[1])), 1);
            x.cut(0, 1100);
            long column = 0;
            for (int r = 0; r < size[1]; r++) {
                column |= 1L << r * size[0];
            }
            due("the first column goes row by row", x.side(0, 0), column);
        }
    }

    /** Two contented heirs, small 1: what lies beside what, and what along the road. */
    private static void layOf(BrothersField x, int w, int h, String how) {
        String who = how + ", " + w + " by " + h;
        int n = w * h;
        due(who + ": all", x.own(all(w, h), 1), n);
        for (int square : new int[] {0, w - 1, n - w, n - 1, w}) {
            int row = square / w;
            int column = square % w;
            x.own(1L << square, 0);
            int sides = (row > 0 ? 1 : 0) + (row < h - 1 ? 1 : 0) + (column > 0 ? 1 : 0) + (column < w - 1 ? 1 : 0);
            due(who + ": hedge round " + square, x.hedge(), sides);
            boolean[] at = {row == 0, column == w - 1, row == h - 1, column == 0};
            for (int road = 0; road < 4; road++) {
                x.place(0, road);
                due(who + ": road " + road + " at " + square, x.faulty(), at[road] ? 0 : 3);
            }
            x.own(1L << square, 1);
        }
        due(who + ": over the edge", x.parts(3L << w - 1), 2);
        due(who + ": below", x.parts(1L | 1L << w), 1);
        due(who + ": no more squares", x.owner(n), -1);
        x.cut(0, 1000 + 100 * (w - 1));
        due(who + ": the last column", x.says(0, 1), h);
        x.cut(0, 4000 + 100 * (h - 1));
        due(who + ": the last row", x.says(0, 1), w);
    }

    private static void otherSizes() {
        sentence = "W and H become others";
        for (int[] from : SIZES) {
            for (int[] to : SIZES) {
                BrothersField x = Made.contented(from[0], from[1], 2);
                x.size(to[0], to[1]);
                layOf(x, to[0], to[1], "by size");
                x = Made.contented(from[0], from[1], 2);
                Made.text(x, 1, 0, "size " + to[0] + " " + to[1]);
                x.field(1);
                layOf(x, to[0], to[1], "by a text");
                x = Made.contented(to[0], to[1], 2);
                x.image();
                x.size(from[0], from[1]);
                x.restore();
                layOf(x, to[0], to[1], "by an image");
                x = Made.contented(to[0], to[1], 2);
                Made.text(x, 1, 0, "size " + from[0] + " " + from[1] + ";x");
                x.field(1);
                layOf(x, to[0], to[1], "not by a faulty text");
            }
        }
    }

    private static void soils() {
        sentence = "a SQUARE has a SOIL (0 to 5; 0 at first)";
        BrothersField x = new BrothersField();
        for (int square = 0; square < 16; square++) {
            due("soil(" + square + ")", x.soil(square, square % 6), 0);
        }
        for (int square = 0; square < 16; square++) {
            due("soil(" + square + ")", x.soil(square, 5), square % 6);
        }
        for (int wrong : new int[] {6, -1, 10, MIN, MAX}) {
            due("soil(0, " + wrong + ")", x.soil(0, wrong), -1);
        }
        due("it stays", x.soil(0, 0), 5);
    }

    private static void besides() {
        sentence = "BESIDE each other lie SQUARES with a side in common";
        for (int[] size : SIZES) {
            int w = size[0];
            int n = w * size[1];
            for (int one = 0; one < n; one++) {
                BrothersField x = Made.board(w, size[1], 1);
                int sides = 0;
                for (int other = 0; other < n; other++) {
                    boolean sameRow = one / w == other / w && Math.abs(one - other) == 1;
                    boolean beside = sameRow || Math.abs(one - other) == w;
                    sides += beside ? 1 : 0;
                    due("parts of " + one + " and " + other, x.parts(1L << one | 1L << other), beside || one == other ? 1 : 2);
                }
                x.own(1L << one, 0);
                due("hedge round " + one, x.hedge(), sides);
            }
        }
    }

    /** Heir 0 has one square, heir 1 all the rest, which comes to every side of the board. */
    private static void roads() {
        sentence = "The ROAD runs along a side: 0 the first row, 1 the last column, 2 the last row, 3 the first column (0 at first)";
        for (int[] size : new int[][] {{3, 3}, {4, 3}, {3, 5}, {8, 8}}) {
            int w = size[0];
            int h = size[1];
            for (int square = 0; square < w * h; square++) {
                BrothersField x = Made.contented(w, h, 2);
                due("at first", x.status(3), 0);
                x.own(all(w, h), 1);
                x.own(1L << square, 0);
                boolean[] at = {square < w, square % w == w - 1, square >= w * (h - 1), square % w == 0};
                verdict(x, "square " + square + " at first", at[0] ? 0 : 3, at[0] ? -1 : 0);
                for (int road = 3; road >= 0; road--) {
                    x.place(0, road);
                    verdict(x, "square " + square + ", road " + road, at[road] ? 0 : 3, at[road] ? -1 : 0);
                }
            }
        }
    }

    private static void places() {
        sentence = "A WELL, an OAK: a SQUARE each, or none (NONE; at first). SMALL (0 to 20; 1 at first)";
        BrothersField x = new BrothersField();
        due("road at first", x.place(0, 3), 0);
        due("well at first", x.place(1, 0), -1);
        due("oak at first", x.place(2, 15), -1);
        due("small at first", x.place(3, 0), 1);
        due("small", x.place(3, 20), 0);
        due("small 21", x.place(3, 21), -16);
        due("small -1", x.place(3, -1), -16);
        due("small stays", x.place(3, 5), 20);
        due("well", x.place(1, 15), 0);
        due("well 16", x.place(1, 16), -16);
        due("well -2", x.place(1, -2), -16);
        due("no well", x.place(1, -1), 15);
        due("no well it was", x.place(1, -1), -1);
        due("oak 16", x.place(2, 16), -16);
        due("oak -2", x.place(2, -2), -16);
        due("no oak", x.place(2, -1), 15);
        due("no oak it was", x.place(2, 0), -1);
        due("road 4", x.place(0, 4), -16);
        due("road -1", x.place(0, -1), -16);
        due("road stays", x.place(0, 0), 3);
        for (int wrong : new int[] {4, -1, 5, MIN, MAX}) {
            due("place(" + wrong + ", 0)", x.place(wrong, 0), -16);
        }
    }

    private static void heirs() {
        sentence = "HEIRS have numbers, from 0 on, 5 at most: for each SOIL a WORTH (0 to 99), a SHARE (1 to 9)";
        BrothersField x = new BrothersField();
        due("none at first", x.status(2), 0);
        for (int wrong : new int[] {0, 10, -1, MIN, MAX}) {
            due("heir(" + wrong + ")", x.heir(wrong), -6);
        }
        due("none yet", x.status(2), 0);
        int[] shares = {1, 9, 2, 8, 5};
        for (int p = 0; p < 5; p++) {
            due("not there yet", x.heirOf(p, 0), -5);
            due("heir", x.heir(shares[p]), p);
            due("share", x.heirOf(p, 0), shares[p]);
            due("worth of the first soil", x.heirOf(p, 10), 10);
            due("worth of the last soil", x.heirOf(p, 15), 10);
        }
        due("a sixth", x.heir(1), -7);
        due("five there are", x.status(2), 5);
        due("worth 0", x.worths(4, 5, 0), 10);
        due("worth 99", x.worths(4, 5, 99), 0);
        due("worth 100", x.worths(4, 5, 100), -6);
        due("worth -1", x.worths(4, 5, -1), -6);
        due("it stays", x.heirOf(4, 15), 99);
        due("soil 6", x.worths(4, 6, 1), -1);
        due("soil -1", x.worths(4, -1, 1), -1);
        due("heir 5", x.worths(5, 5, 1), -1);
        due("heir -1", x.worths(-1, 5, 1), -1);
    }

    private static void worths() {
        sentence = "WORTH: of all its SQUARES by SOIL, and 20 more, if the OAK is of it and he is FOND of it (none is at first)";
        BrothersField x = Made.board(3, 2, 1, 1);
        for (int v = 0; v < 6; v++) {
            x.soil(v, v);
            x.worths(0, v, 1 << v);
        }
        for (int set = 0; set < 64; set++) {
            due("worth of " + set, x.worth(0, set), set);
        }
        x.place(2, 5);
        due("none is fond at first", x.worth(0, 63), 63);
        due("is he fond", x.heirOf(0, 1), 0);
        x.fond(0, true);
        due("with the oak", x.worth(0, 32), 52);
        due("without it", x.worth(0, 31), 31);
        due("the other isn't fond", x.worth(1, 63), 60);
        x.place(2, 0);
        due("the oak elsewhere", x.worth(0, 1), 21);
        due("the oak elsewhere", x.worth(0, 62), 62);
        x.place(2, -1);
        due("no oak", x.worth(0, 63), 63);
        due("the empty set", x.worth(0, 0), 0);
        x = Made.board(8, 8, 1);
        for (int v = 0; v < 6; v++) {
            x.worths(0, v, 99);
        }
        x.place(2, 63);
        x.fond(0, true);
        due("the most of all", x.worth(0, -1), 64 * 99 + 20);
        due("the oak at the last square", x.worth(0, Long.MIN_VALUE), 119);
        due("all but that", x.worth(0, Long.MAX_VALUE), 63 * 99);
    }

    /** The first heir has the squares below a number, all of one soil. */
    private static void due(int w, int h, int share, int others, int has, boolean enough) {
        BrothersField x = Made.board(w, h, share, others);
        x.place(0, has > w * (h - 1) ? 2 : 3);
        x.own(all(w, h), 1);
        x.own(all(w, h) >>> 64 - has - (64 - w * h), 0);
        for (int v = 0; v < 6; v++) {
            x.worths(1, v, 0);
        }
        verdict(x, has + " of " + w * h + " for " + share + " to " + others, enough ? 0 : 5, enough ? -1 : 0);
    }

    private static void dues() {
        sentence = "DUE to an HEIR: .. no less than his SHARE times the WORTH of all SQUARES for him";
        due(2, 2, 1, 1, 2, true);
        due(2, 2, 1, 1, 1, false);
        due(3, 2, 1, 2, 2, true);
        due(3, 2, 1, 2, 1, false);
        due(4, 4, 1, 2, 6, true);
        due(4, 4, 1, 2, 5, false);
        due(4, 4, 9, 1, 15, true);
        due(4, 4, 9, 1, 14, false);
        due(4, 4, 1, 9, 2, true);
        due(4, 4, 1, 9, 1, false);
        due(8, 8, 7, 9, 28, true);
        due(8, 8, 7, 9, 27, false);
        BrothersField x = Made.board(2, 2, 1, 2);
        Made.owners(x, "01 01");
        x.worths(1, 0, 0);
        for (int v = 1; v < 4; v++) {
            x.soil(v, v);
            x.worths(0, v, new int[] {0, 20, 4, 7}[v]);
        }
        x.worths(0, 0, 9);
        verdict(x, "13 for a third of 40: one too little", 5, 0);
        x.worths(0, 3, 6);
        verdict(x, "13 for a third of 39", 0, -1);
        x.worths(0, 0, 10);
        verdict(x, "14 for a third of 40", 0, -1);
        x = Made.board(2, 2, 1, 1);
        x.place(2, 3);
        x.fond(0, true);
        Made.owners(x, "01 01");
        verdict(x, "the oak is of the WORTH of all", 5, 0);
        x.place(2, 2);
        verdict(x, "and of his own", 0, -1);
        x = Made.contented(2, 2, 2);
        x.own(15, 1);
        x.place(3, 0);
        verdict(x, "worth nothing: nothing is enough, but for the road", 3, 0);
    }

    private static void ownersOfSquares() {
        sentence = "OWNERS: of each SQUARE an HEIR, THE LANE (9), or nobody (NONE, at first)";
        BrothersField x = Made.board(4, 4, 1, 1);
        due("nobody's at first", x.piece(-1), 0xFFFF);
        due("own for the last heir", x.own(1, 1), 1);
        due("own for the lane", x.own(2, 9), 1);
        due("own for nobody", x.own(4, -1), 1);
        int[] owners = {1, 9, -1, -1};
        for (int square = 0; square < 4; square++) {
            due("owner", x.owner(square), owners[square]);
        }
        for (int wrong : new int[] {2, 3, 4, 5, 6, 7, 8, 10, -2, MIN, MAX}) {
            due("own for " + wrong, x.own(1, wrong), -1);
            due("piece of " + wrong, x.piece(wrong), 0);
        }
        due("it stays", x.owner(0), 1);
        x = Made.board(2, 2, 1, 1, 1, 1, 1);
        due("the fifth heir", x.own(15, 4), 4);
        due("the fifth heir's", x.piece(4), 15);
        due("no sixth", x.own(1, 5), -1);
    }

    private static void cutNumbers() {
        sentence = "CUTS have a KIND and numbers a, b, c (0 to 8 each)";
        BrothersField x = new BrothersField();
        for (int kind = 0; kind < 7; kind++) {
            for (int code : new int[] {0, 888, 808, 80, 8}) {
                due("cut", x.cut(kind, 1000 * kind + code), 1);
                due("holds", x.holds(kind), 1000 * kind + code);
            }
            for (int code : new int[] {900, 90, 9, 999, 989}) {
                due("cut with a 9", x.cut(kind, 1000 * kind + code), -6);
            }
            due("it stays", x.holds(kind), 1000 * kind + 8);
        }
        for (int code : new int[] {7000, 7888, 7999, 8000, 10000, 11000, MAX}) {
            due("no kind: " + code, x.cut(0, code), -1);
        }
        for (int code : new int[] {-2, -9, -1000, -7000, -1001, MIN}) {
            due("below NONE: " + code, x.cut(0, code), -6);
        }
        due("it stays", x.holds(0), 8);
    }

    /** What is FIRST and what the LANE, told square by square. */
    private static boolean first(int kind, int a, int b, int c, int w, int square) {
        int column = square % w;
        int row = square / w;
        switch (kind) {
            case 0: return square < 8 * a + b;
            case 1: case 3: return column < a;
            case 2: return row < b ? column < a : column < c;
            case 4: return row < a;
            case 5: return column < a && row < b;
            default: return row < b ? column >= a : column >= c;
        }
    }

    /** Every kind with every number that lies at an edge of some board: 0, 1, the last, the size, 8. */
    private static void sides() {
        sentence = "0 CUT .. 1 STRAIGHT .. 2 BENT .. 3 LANE .. 4 ALONG .. 5 FROM .. 6 TOLD .. SECOND: all others (without the LANE)";
        for (int[] size : SIZES) {
            for (int kind = 0; kind < 7; kind++) {
                for (int a = 0; a <= 8; a++) {
                    BrothersField x = Made.board(size[0], size[1]);
                    for (int bc = 0; bc < 81; bc += kind == 0 || kind == 5 ? 9 : kind == 2 || kind == 6 ? 4 : 80) {
                        sidesOf(x, kind, a, bc / 9, bc % 9, size[0], size[0] * size[1]);
                    }
                }
            }
        }
    }

    private static void sidesOf(BrothersField x, int kind, int a, int b, int c, int w, int n) {
        long first = 0;
        long lane = 0;
        for (int square = 0; square < n; square++) {
            first |= first(kind, a, b, c, w, square) ? 1L << square : 0;
            lane |= kind == 3 && square % w == a ? 1L << square : 0;
        }
        int code = 1000 * kind + 100 * a + 10 * b + c;
        long second = all(w, n / w) & ~first & ~lane;
        x.cut(0, code);
        due(code + ": first", x.side(0, 0), first);
        due(code + ": second", x.side(0, 1), second);
        due(code + ": lane", x.side(0, 2), lane);
        due(code + ": how many are first", x.says(0, 0), Long.bitCount(first));
    }

    private static void laneBeyond() {
        sentence = "A LANE beyond the columns is none, all is FIRST then";
        for (int w = 2; w <= 8; w++) {
            BrothersField x = Made.board(w, 3, 1, 1);
            x.cut(0, 3000 + 100 * (w - 1));
            due("the last column", x.says(0, 3), 3);
            due("nothing is second", x.side(0, 1), 0);
            x.cut(0, 3000 + 100 * w);
            due("the column beyond", x.says(0, 3), 0);
            due("no lane", x.side(0, 2), 0);
            due("all is first", x.side(0, 0), all(w, 3));
            due("all is laid for the first", x.lay(0, 0, 1), 3 * w);
            due("all is laid for the first", x.piece(0), all(w, 3));
        }
    }

    private static void hedges() {
        sentence = "HEDGE: how many pairs of SQUARES BESIDE each other have unlike OWNERS (nobody counts as one; THE LANE, too)";
        String[] pictures = {"....", "0000", "LLLL", "00 ..", "00 LL", "LL ..", "01 L.", "01 10", "0. .0", "0L L0", "L. .L", "01 23", "0. 00", "00 01"};
        int[] hedges = {0, 0, 0, 2, 2, 2, 4, 4, 4, 4, 4, 4, 2, 2};
        for (int i = 0; i < pictures.length; i++) {
            BrothersField x = Made.board(2, 2, 1, 1, 1, 1);
            Made.owners(x, pictures[i]);
            due(pictures[i], x.hedge(), hedges[i]);
        }
        BrothersField x = Made.board(8, 8, 1, 1);
        due("an empty board", x.hedge(), 0);
        x.own(0xAA55AA55AA55AA55L, 0);
        due("the most of all", x.hedge(), 112);
        x.own(-1, 0);
        x.own(0x0101010101010101L, 1);
        due("the first column isn't beside the last", x.hedge(), 8);
    }

    private static void faultOne() {
        sentence = "1 a SQUARE is owned by nobody (of 1 the first SQUARE)";
        BrothersField x = Made.contented(3, 2, 2);
        verdict(x, "all squares", 1, 0);
        Made.owners(x, "001 01.");
        verdict(x, "the last square", 1, 5);
        Made.owners(x, "001 .1.");
        verdict(x, "two squares", 1, 3);
        Made.owners(x, ".01 001");
        verdict(x, "the first square", 1, 0);
        Made.owners(x, "L01 001");
        verdict(x, "the lane is an owner", 0, -1);
        x = Made.board(8, 8);
        verdict(x, "without heirs", 1, 0);
        x.own(Long.MAX_VALUE, 9);
        verdict(x, "square 63", 1, 63);
        x.own(-1, 9);
        verdict(x, "without heirs, all the lane's", 0, -1);
    }

    private static void faultTwo() {
        sentence = "2 the SQUARES of an HEIR don't hang together (none at all hang together), or are fewer than SMALL";
        BrothersField x = Made.contented(4, 3, 2);
        Made.owners(x, "0011 0011 0011");
        verdict(x, "halves", 0, -1);
        Made.owners(x, "0011 0011 0010");
        verdict(x, "heir 0 in two", 2, 0);
        Made.owners(x, "0011 0011 1011");
        verdict(x, "heir 1 in two", 2, 1);
        Made.owners(x, "0011 0011 1010");
        verdict(x, "both", 2, 0);
        Made.owners(x, "0001 1110 1111");
        verdict(x, "corner by corner", 2, 0);
        Made.owners(x, "0001 0110 0011");
        verdict(x, "round the board's edge", 2, 0);
        Made.owners(x, "0000 0111 0000");
        verdict(x, "a ring hangs together; not at the road", 3, 1);
        Made.owners(x, "0001 1111 1111");
        x.place(3, 3);
        verdict(x, "as many as small", 0, -1);
        x.place(3, 4);
        verdict(x, "one too few", 2, 0);
        Made.owners(x, "0000 0000 0111");
        verdict(x, "heir 1 has too few", 2, 1);
        x = Made.contented(5, 5, 2);
        x.place(3, 20);
        Made.owners(x, "00001 00001 00001 00001 00001");
        verdict(x, "twenty, and five", 2, 1);
        x.own(0x1FFFFFF, 9);
        verdict(x, "none at all, small 20", 2, 0);
        x.place(3, 1);
        verdict(x, "none at all, small 1", 2, 0);
        sentence = "With SMALL 0 no SQUARE at all is no fault of 2";
        x.place(3, 0);
        verdict(x, "none at all, small 0", 3, 0);
        x.own(0x1FFFFFF, 1);
        verdict(x, "the other has all", 3, 0);
        x.own(1, 0);
        verdict(x, "one square is enough for small 0", 0, -1);
    }

    private static void faultThree() {
        sentence = "3 an HEIR has no SQUARE at the ROAD, nor one BESIDE a SQUARE of THE LANE that is part of one at the ROAD by SQUARES of THE LANE";
        String[] pictures = {"000 111 111", "0LL 0L1 011", "00L 001 011", "000 0L1 011", "000 00L 111", "L00 L00 L11", "L00 L00 110",
            "L00 000 L11", "00L 00L L11", "111 000 000", "LLL 000 111"};
        int[] whose = {1, -1, -1, 1, 1, -1, -1, 1, -1, 0, 1};
        for (int i = 0; i < pictures.length; i++) {
            BrothersField x = Made.contented(3, 3, 2);
            Made.owners(x, pictures[i]);
            verdict(x, pictures[i], whose[i] < 0 ? 0 : 3, whose[i]);
        }
        BrothersField x = Made.contented(3, 4, 2);
        Made.owners(x, "L00 0L0 010 000");
        verdict(x, "the lane goes on by a corner alone", 3, 1);
        Made.owners(x, "LL0 0L0 010 000");
        verdict(x, "the lane goes on by sides", 0, -1);
        x = Made.contented(3, 3, 1);
        Made.owners(x, "LLL LLL LL0");
        verdict(x, "by a broad lane", 0, -1);
        Made.owners(x, "LLL L0L LLL");
        verdict(x, "in the midst of the lane", 0, -1);
        Made.owners(x, "L0L 0LL LL0");
        verdict(x, "in pieces first", 2, 0);
        x.place(0, 1);
        Made.owners(x, "0LL 0LL 0LL");
        verdict(x, "by the lane to the last column", 0, -1);
        Made.owners(x, "0LL 0LL 00L");
        verdict(x, "at the road and by the lane", 0, -1);
        x = Made.contented(3, 3, 2);
        Made.owners(x, "0L1 001 0L1");
        x.place(0, 2);
        verdict(x, "a lane of two parts, one at the road", 0, -1);
        Made.owners(x, "0L1 0L1 000");
        verdict(x, "the lane's other end isn't at the road", 3, 1);
    }

    private static void faultFour() {
        sentence = "4 with a WELL: an HEIR has neither it nor a SQUARE BESIDE it, unless it is of THE LANE";
        for (int square = 0; square < 9; square++) {
            for (int well = 0; well < 9; well++) {
                BrothersField x = Made.contented(3, 3, 2);
                x.place(0, square < 3 ? 0 : square > 5 ? 2 : square == 3 ? 3 : 1);
                if (square != 4) {
                    x.own(511, 1);
                    x.own(1L << square, 0);
                    verdict(x, "no well", 0, -1);
                    x.place(1, well);
                    boolean near = x.parts(1L << square | 1L << well) == 1;
                    verdict(x, "square " + square + ", well " + well, near ? 0 : 4, near ? -1 : 0);
                    x.place(1, -1);
                    verdict(x, "no well any more", 0, -1);
                }
            }
        }
        BrothersField x = Made.contented(4, 2, 2);
        Made.owners(x, "0011 0011");
        x.place(1, 0);
        verdict(x, "heir 1 is far", 4, 1);
        Made.owners(x, "L011 0011");
        verdict(x, "the well is of the lane", 0, -1);
        Made.owners(x, "0L11 0011");
        verdict(x, "the lane is beside the well alone", 4, 1);
        x.place(1, 3);
        verdict(x, "heir 0 is far", 4, 0);
    }

    private static void faultFive() {
        sentence = "5 an HEIR hasn't his DUE. (HEIRS 0 on, all there are.)";
        BrothersField x = Made.board(3, 2, 1, 1, 1);
        Made.owners(x, "012 012");
        verdict(x, "thirds", 0, -1);
        x.worths(2, 0, 0);
        x.worths(2, 1, 99);
        x.soil(0, 1);
        verdict(x, "the last heir", 5, 2);
        x.worths(0, 1, 0);
        verdict(x, "40 for 50 would be a third for the first", 5, 0);
        x.worths(0, 1, 10);
        verdict(x, "the last heir again", 5, 2);
        x.worths(2, 1, 0);
        verdict(x, "worth nothing is due enough", 0, -1);
        x.heir(1);
        verdict(x, "a new heir has fewer than small", 2, 3);
        x.place(3, 0);
        verdict(x, "a new heir has no square at the road", 3, 3);
        sentence = "All SQUARES of the FIELD count for DUE, THE LANE's too";
        x = Made.board(4, 4, 1, 1);
        x.cut(0, 3100);
        x.lay(0, 0, 1);
        verdict(x, "4 of 16", 5, 0);
        x.cut(0, 3200);
        x.lay(0, 0, 1);
        verdict(x, "8 of 16, and 4", 5, 1);
        x.soil(2, 1);
        x.soil(6, 1);
        x.soil(10, 1);
        x.soil(14, 1);
        x.worths(1, 1, 0);
        verdict(x, "the lane is worth nothing to him: 4 of 12", 5, 1);
        x.worths(1, 0, 0);
        verdict(x, "nor anything", 0, -1);
        x.worths(1, 1, 1);
        verdict(x, "all that is worth a thing to him is the lane's", 5, 1);
    }

    /** The earlier fault is another's, who comes later. */
    private static void faultByFault() {
        sentence = "FAULTS go fault by fault, HEIRS within";
        BrothersField x = Made.contented(3, 3, 2);
        Made.owners(x, "111 000 011");
        verdict(x, "heir 1 in two, heir 0 not at the road", 2, 1);
        Made.owners(x, "110 000 011");
        x.place(1, 8);
        x.place(0, 3);
        verdict(x, "2 of heir 1 ahead of all", 2, 1);
        Made.owners(x, "000 110 000");
        x.place(0, 1);
        x.place(1, -1);
        x.place(1, 8);
        verdict(x, "3 of heir 1", 3, 1);
        Made.owners(x, "001 011 011");
        x.place(0, 3);
        x.place(1, 0);
        verdict(x, "3 of heir 1 with 4 of him", 3, 1);
        x.place(1, 8);
        verdict(x, "3 of heir 1 ahead of 4 of heir 0", 3, 1);
        x.place(0, 0);
        verdict(x, "4 of heir 0", 4, 0);
        x.worths(0, 0, 10);
        x.place(1, 0);
        Made.owners(x, "000 111 111");
        x.place(0, 3);
        verdict(x, "a lot, but no due for heir 0", 5, 0);
        x.place(1, 1);
        verdict(x, "the well is beside heir 1", 5, 0);
        Made.owners(x, "000 011 111");
        x.place(1, 0);
        verdict(x, "4 of heir 1 ahead of 5 of heir 0", 4, 1);
        x.place(1, -1);
        verdict(x, "5 of heir 0", 5, 0);
        x.own(1, -1);
        verdict(x, "1 ahead of all", 1, 0);
    }

    public static void main(String[] args) {
        sizes();
        squares();
        otherSizes();
        soils();
        besides();
        roads();
        places();
        heirs();
        worths();
        dues();
        ownersOfSquares();
        cutNumbers();
        sides();
        laneBeyond();
        hedges();
        faultOne();
        faultTwo();
        faultThree();
        faultFour();
        faultFive();
        faultByFault();
        Due.end();
    }
}
