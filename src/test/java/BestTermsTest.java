/** The document's terms of WHAT IS BEST, of SHELVES and ACTS: sentence by sentence, each at its edges. */
public final class BestTermsTest {
    private static final int MAX = Integer.MAX_VALUE;
    private static final int MIN = Integer.MIN_VALUE;

    private static String sentence = "";

    private static void due(String call, long got, long want) {
        Due.is("'" + sentence + "': " + call, got, want);
    }

    private static void two(BrothersField x, String what, int code, int way, int hedge) {
        due(what + ": code", x.two(0), code);
        due(what + ": way", x.two(1), way);
        due(what + ": hedge", x.two(2), hedge);
    }

    private static void three(BrothersField x, String what, int one, int other, int hedge) {
        due(what + ": the one", x.three(0), one);
        due(what + ": the other", x.three(1), other);
        due(what + ": hedge", x.three(2), hedge);
    }

    /** To this heir a single square is worth all there is. */
    private static void wantsOnly(BrothersField x, int heir, int square) {
        for (int v = 0; v < 6; v++) {
            x.worths(heir, v, 0);
        }
        x.fond(heir, true);
        x.place(2, square);
    }

    private static void twoHeirs() {
        sentence = "two HEIRS there must be";
        for (int heirs = 0; heirs <= 5; heirs++) {
            BrothersField x = Made.contented(2, 2, heirs);
            for (int what = 0; what < 3; what++) {
                due(heirs + " heirs, what " + what, x.two(what), heirs != 2 ? -5 : new int[] {1100, 0, 2}[what]);
            }
        }
    }

    private static void twoEdges() {
        sentence = "TWO: STRAIGHT a 1 to W less 1; BENT a, c 0 to W, b 1 to H less 1";
        two(Made.board(8, 2, 1, 7), "a 1", 1100, 0, 2);
        two(Made.board(8, 2, 7, 1), "a 1, the other way", 1100, 1, 2);
        BrothersField x = Made.board(8, 2, 7, 1);
        wantsOnly(x, 1, 7);
        two(x, "a W less 1", 1700, 0, 2);
        int[] roads = {0, 0, 2, 2};
        int[] small = {2110, 2112, 2011, 2211};
        int[] ways = {1, 0, 1, 0};
        for (int square = 0; square < 4; square++) {
            x = Made.board(2, 2, 3, 1);
            wantsOnly(x, 1, square);
            x.place(0, roads[square]);
            two(x, "a corner for heir 1: " + square, small[square], ways[square], 2);
        }
        int[] corners = {0, 1, 4, 5};
        int[] high = {2110, 2112, 2021, 2221};
        for (int i = 0; i < 4; i++) {
            x = Made.board(2, 3, 5, 1);
            wantsOnly(x, 1, corners[i]);
            x.place(0, roads[i]);
            two(x, "a corner of a higher board: " + corners[i], high[i], ways[i], 2);
        }
        x = Made.board(2, 8, 1, 1);
        x.place(0, 1);
        two(x, "halves along: BENT has the lesser code", 2042, 0, 2);
    }

    private static void twoBest() {
        sentence = "TWO: by which OWNERS would not be FAULTY: that of the least HEDGE, of several the least code, then way";
        two(Made.contented(2, 2, 2), "least code, then way", 1100, 0, 2);
        two(Made.contented(2, 4, 2), "less hedge by a greater code", 2110, 0, 2);
        BrothersField x = Made.board(3, 2, 1, 1);
        two(x, "three and three at the first row", 2112, 0, 3);
        x.place(0, 3);
        two(x, "three and three at the first column", 2013, 0, 3);
        x = Made.contented(2, 2, 2);
        wantsOnly(x, 0, 1);
        two(x, "heir 0 must have square 1", 1100, 1, 2);
        x.place(3, 2);
        two(x, "with two squares each", 1100, 1, 2);
        x.place(3, 3);
        two(x, "none: too few squares", -5, -5, -5);
        x.place(3, 1);
        two(x, "again", 1100, 1, 2);
        x = Made.board(2, 2, 1, 1);
        x.place(0, 3);
        x.soil(0, 1);
        x.worths(0, 0, 0);
        x.worths(1, 0, 0);
        two(x, "none: both want the same square", -5, -5, -5);
        due("what 3", x.two(3), -5);
        due("what -1", x.two(-1), -5);
        due("what MIN", x.two(MIN), -5);
        due("what MAX", x.two(MAX), -5);
    }

    private static void wellOfTwo() {
        sentence = "TWO: a WELL counts, as OWNERS would be";
        BrothersField x = Made.board(4, 2, 1, 1);
        two(x, "halves", 1200, 0, 2);
        x.place(1, 1);
        two(x, "a well at the hedge", 1200, 0, 2);
        x.place(1, 0);
        x.own(1, 9);
        two(x, "a well of the lane's counts all the same: all squares are parted", 2113, 0, 4);
    }

    private static void lanesParted() {
        sentence = "TWO and THREE part all SQUARES, THE LANE's too";
        BrothersField x = Made.board(4, 4, 1, 1);
        x.own(0xFFFF, 9);
        two(x, "all of the lane", 1200, 0, 4);
        due("the lane keeps it", x.piece(9), 0xFFFF);
        x = Made.board(3, 3, 1, 1, 1);
        x.own(0b010010010, 9);
        x.own(0b001001001, 2);
        three(x, "a lane between", 1100, 1200, 6);
        due("the lane keeps it", x.piece(9), 0b010010010);
        due("heir 2 keeps his", x.piece(2), 0b001001001);
        due("nobody keeps his", x.piece(-1), 0b100100100);
    }

    private static void threeHeirs() {
        sentence = "THREE (three HEIRS)";
        for (int heirs = 0; heirs <= 5; heirs++) {
            BrothersField x = Made.contented(3, 2, heirs);
            for (int what = 0; what < 3; what++) {
                due(heirs + " heirs, what " + what, x.three(what), heirs != 3 ? -5 : new int[] {1100, 1200, 4}[what]);
            }
        }
    }

    private static void threeBest() {
        sentence = "THREE: HEIR 0 has FIRST of the one, HEIR 1 what is left of FIRST of the other, HEIR 2 the rest";
        BrothersField x = Made.contented(4, 4, 3);
        three(x, "corner squares", 5110, 5210, 4);
        x.place(0, 3);
        three(x, "the other way", 5110, 5120, 4);
        x = Made.board(8, 2, 1, 1, 6);
        three(x, "columns 1, 1, 6", 1100, 1200, 4);
        x = Made.board(8, 2, 1, 6, 1);
        three(x, "columns 1, 6, 1", 1100, 1700, 4);
        x = Made.board(8, 2, 6, 1, 1);
        three(x, "columns 6, 1, 1", 1600, 1700, 4);
        x = Made.board(2, 8, 6, 1, 1);
        x.place(0, 3);
        three(x, "rows 6, 1, 1", 4600, 4700, 4);
        x = Made.board(2, 8, 1, 1, 6);
        x.place(0, 1);
        three(x, "rows 1, 1, 6", 4100, 4200, 4);
        x = Made.board(3, 3, 4, 2, 3);
        x.place(0, 2);
        three(x, "no way", -5, -5, -5);
        x = Made.board(2, 2, 1, 2, 1);
        three(x, "a corner, what is left of the column's side, no road for the rest", -5, -5, -5);
        x.place(0, 2);
        three(x, "no road for the corner", -5, -5, -5);
        x = Made.board(2, 2, 1, 1, 2);
        x.place(0, 3);
        three(x, "a corner, the square below, the rest has no road", -5, -5, -5);
        x = Made.board(2, 2, 2, 1, 1);
        x.place(0, 1);
        three(x, "a row, and no corner at the end of the other", -5, -5, -5);
        x.place(0, 2);
        three(x, "a column, and the square beside", -5, -5, -5);
        sentence = "THREE: not FAULTY, of the least HEDGE, of several the least code of the one, then of the other";
        x = Made.contented(3, 2, 3);
        three(x, "alike in hedge: the least codes", 1100, 1200, 4);
        x.place(3, 3);
        three(x, "none", -5, -5, -5);
        due("what 3", x.three(3), -5);
        due("what -1", x.three(-1), -5);
        due("what MAX", x.three(MAX), -5);
    }

    private static void choose(BrothersField x, int cuts, int takes, int code, int side, int forTaker, int forCutter) {
        String who = cuts + " cuts, " + takes + " takes, what ";
        due(who + 0, x.choose(cuts, takes, 0), code);
        due(who + 1, x.choose(cuts, takes, 1), side);
        due(who + 2, x.choose(cuts, takes, 2), forTaker);
        due(who + 3, x.choose(cuts, takes, 3), forCutter);
    }

    private static void choosing() {
        sentence = "CHOOSE: that by which for him the difference of FIRST and SECOND is least, of several the least code";
        choose(Made.board(2, 2, 1, 1), 0, 1, 1100, 0, 20, 20);
        choose(Made.board(3, 2, 1, 1), 0, 1, 2013, 0, 30, 30);
        choose(Made.board(5, 5, 1, 1), 0, 1, 2013, 1, 130, 120);
        int[] codes = {2110, 2112, 2011, 2211};
        int[] sides = {1, 0, 1, 0};
        for (int square = 0; square < 4; square++) {
            BrothersField x = Made.board(2, 2, 1, 1);
            x.soil(square, 5);
            x.worths(0, 5, 30);
            choose(x, 0, 1, codes[square], sides[square], 30, 30);
        }
        BrothersField x = Made.board(2, 3, 1, 1);
        x.soil(4, 1);
        x.worths(0, 1, 50);
        choose(x, 0, 1, 2021, 1, 50, 50);
        x = Made.contented(2, 2, 2);
        choose(x, 0, 1, 1100, 0, 0, 0);
        wantsOnly(x, 0, 3);
        choose(x, 0, 1, 1100, 0, 0, 20);
        choose(x, 1, 0, 1100, 1, 20, 0);
        x = Made.board(8, 8, 1, 1);
        choose(x, 1, 0, 1400, 0, 320, 320);
        sentence = "CHOOSE: the other takes the side of more WORTH for him (FIRST, if alike)";
        x = Made.board(2, 2, 1, 1, 1);
        x.soil(1, 1);
        x.worths(1, 1, 11);
        x.worths(2, 1, 9);
        choose(x, 0, 1, 1100, 1, 21, 20);
        choose(x, 0, 2, 1100, 0, 20, 20);
        x.worths(1, 1, 10);
        choose(x, 0, 1, 1100, 0, 20, 20);
        sentence = "CHOOSE: owners, the road, the well and small don't matter";
        x.own(15, 9);
        x.place(1, 3);
        x.place(3, 20);
        choose(x, 0, 1, 1100, 0, 20, 20);
        due("the lane keeps all", x.piece(9), 15);
    }

    private static void envies() {
        sentence = "ENVIES: an HEIR would rather have another's SQUARES, if these are of more WORTH for him than his own";
        BrothersField x = Made.board(4, 4, 1, 1, 1, 1, 1);
        for (int heir = 0; heir < 5; heir++) {
            due("none has a square", x.envies(heir), 0);
        }
        Made.owners(x, "0112 2233 344L LLL.");
        due("heir 0", x.envies(0), 0b11110);
        due("heir 1", x.envies(1), 0b01100);
        due("heir 2: the most, alike", x.envies(2), 0);
        due("heir 3: the most, alike", x.envies(3), 0);
        due("heir 4", x.envies(4), 0b01100);
        x.soil(0, 1);
        x.worths(4, 1, 21);
        due("one more than his own", x.envies(4), 0b01101);
        x.worths(4, 1, 20);
        due("as much as his own", x.envies(4), 0b01100);
        x.place(2, 0);
        x.fond(1, true);
        due("with the oak", x.envies(1), 0b01101);
        x.own(0xFFFF, 9);
        due("the lane isn't another", x.envies(0), 0);
        x.own(0xFFFF, -1);
        due("nobody isn't another", x.envies(0), 0);
        x.own(0xFFFF, 0);
        due("himself he envies not", x.envies(0), 0);
        due("who has all", x.envies(1), 1);
    }

    private static void evens() {
        sentence = "EVENS: SHARE times the WORTH of all for him, less the WORTH of his own times all SHARES, by all SHARES, cut toward 0";
        int[] first = {13, 3, -6, -16, -26};
        int[] second = {26, 16, 6, -3, -13};
        for (int has = 0; has <= 4; has++) {
            BrothersField x = Made.board(2, 2, 1, 2);
            x.own((1L << has) - 1, 0);
            due("share 1 of 3, with " + has, x.evens(0), first[has]);
            x.own((1L << has) - 1, 1);
            due("share 2 of 3, with " + has, x.evens(1), second[has]);
        }
        BrothersField x = Made.board(2, 2, 1, 2);
        x.own(1, 0);
        x.soil(0, 1);
        x.worths(0, 0, 9);
        x.worths(0, 1, 13);
        due("a third above 0", x.evens(0), 0);
        x.worths(0, 1, 14);
        due("a third below 0", x.evens(0), 0);
        x = Made.board(2, 2, 1, 1);
        x.own(3, 0);
        due("even", x.evens(0), 0);
        due("of a single heir with nothing", Made.board(2, 2, 7).evens(0), 40);
        x = Made.board(8, 8, 9, 9, 9, 9, 1);
        for (int v = 0; v < 6; v++) {
            x.worths(4, v, 99);
        }
        x.own(-1, 4);
        due("the most of all", x.evens(4), -6164);
        due("heir 5", x.evens(5), -1000001);
        due("heir -1", x.evens(-1), -1000001);
    }

    private static BrothersField laid(int w, int h, int heirs, int road, String picture) {
        BrothersField x = Made.contented(w, h, heirs);
        x.place(0, road);
        Made.owners(x, picture);
        return x;
    }

    private static void better() {
        sentence = "BETTER: the one with the least HEDGE, if that is less than now";
        due("a tooth", laid(4, 3, 2, 3, "0000 1011 1111").better(), 51);
        due("alike in hedge is not less", laid(2, 2, 2, 1, "00 01").better(), -5);
        due("nor from a faulty one", laid(2, 2, 2, 0, "00 01").better(), -5);
        due("straight", laid(3, 3, 3, 0, "012 012 012").better(), -5);
        due("all of one", laid(3, 3, 1, 0, "000 000 000").better(), -5);
        due("no heirs", Made.board(3, 3).better(), -5);
        sentence = "BETTER: after which OWNERS aren't FAULTY";
        BrothersField x = laid(4, 3, 2, 3, "0000 1011 1111");
        x.place(3, 5);
        due("as few as small already", x.better(), 40);
        x.place(3, 6);
        due("the other has one to spare: 40", x.better(), 40);
        x.place(3, 7);
        due("he would have too few", x.better(), -5);
        x = laid(4, 3, 2, 3, "0000 1011 111.");
        due("a square of nobody's stays faulty", x.better(), -5);
        x = laid(2, 2, 2, 1, "01 11");
        due("heir 0 would have none", x.better(), -5);
        sentence = "OWNERS may be FAULTY ahead of a change that is BETTER";
        x = laid(3, 4, 3, 3, "000 021 111 222");
        due("in two pieces ahead", x.faulty(), 2);
        due("better", x.better(), 40);
        due("the first square", laid(3, 3, 2, 3, "100 000 111").better(), 0);
        due("the last square", laid(3, 3, 2, 1, "111 000 001").better(), 80);
        due("of two pieces the one at the road stays", laid(3, 3, 2, 1, "000 000 101").better(), 60);
        due("of two pieces the one at the road stays", laid(3, 3, 2, 3, "000 000 101").better(), 80);
        sentence = "BETTER: of several the first SQUARE, then the least OWNER";
        due("one owner as good as the other", x.better() % 10, 0);
        x = laid(3, 4, 3, 3, "111 120 000 222");
        due("one owner as good as the other", x.better(), 40);
        due("three squares alike", laid(5, 3, 2, 3, "00000 10101 11111").better(), 61);
        due("three squares alike", laid(5, 3, 2, 3, "11111 01010 00000").better(), 60);
        sentence = "BETTER: to the OWNER of one BESIDE it (THE LANE, nobody not; nor from these)";
        due("not to the lane", laid(4, 3, 1, 3, "0000 L0LL LLLL").better(), -5);
        due("not from the lane", laid(4, 3, 1, 3, "LLLL 0L00 0000").better(), -5);
        due("to another heir beside", laid(4, 3, 2, 3, "0000 L0LL L111").better(), -5);
        due("by the lane, to an heir", laid(4, 3, 2, 3, "0000 L01L 1111").better(), 51);
        due("an heir's, between two of the other", laid(3, 3, 2, 0, "010 000 LLL").better(), -5);
        due("an heir's, who has another", laid(4, 3, 2, 0, "0101 0001 LLL1").better(), 10);
    }

    private interface Search {
        long on(BrothersField x);
    }

    private static final Search[] SEARCHES = {x -> x.two(0), x -> x.two(1), x -> x.three(0), x -> x.three(1), x -> x.choose(0, 1, 0),
        x -> x.choose(1, 0, 3), x -> x.old(0), x -> x.sure(0, 0), x -> x.sure(0, 1), x -> x.better(), x -> x.mend(3), x -> x.faulty()};

    private static BrothersField ready(int heirs) {
        BrothersField x = Made.contented(8, 8, heirs);
        x.row(0, 0, 0);
        x.own(0x00FF00FF00FFL, 0);
        x.own(0xFF0000000000L, 1);
        x.own(0x0F0F0F0F0F000F0FL, 9);
        return x;
    }

    private static void smaller(BrothersField x, int heirs) {
        x.size(heirs, 3);
        Made.owners(x, heirs == 2 ? "01 01 11" : "012 012 112");
    }

    /** What one search has found, on a greater board too, does not come into the next. */
    private static void searchesApart() {
        sentence = "A search finds what it would find on a new object";
        for (int heirs = 2; heirs <= 3; heirs++) {
            for (int one = 0; one < SEARCHES.length; one++) {
                for (int next = 0; next < SEARCHES.length; next++) {
                    String who = heirs + " heirs, search " + one + ", then " + next;
                    BrothersField x = ready(heirs);
                    BrothersField fresh = ready(heirs);
                    if (one != 10) {
                        SEARCHES[one].on(x);
                        due(who, SEARCHES[next].on(x), SEARCHES[next].on(fresh));
                    }
                    x = ready(heirs);
                    SEARCHES[one].on(x);
                    smaller(x, heirs);
                    fresh = Made.contented(4, 4, heirs);
                    fresh.row(0, 0, 0);
                    smaller(fresh, heirs);
                    due(who + ", smaller", SEARCHES[next].on(x), SEARCHES[next].on(fresh));
                }
            }
        }
    }

    /** On each board a cut of the board before would be the best, if it were still among the cuts. */
    private static void searchedAnew() {
        sentence = "CHOOSE, TWO, THREE: a, b, c as they matter on the board there is";
        BrothersField x = Made.board(3, 3, 1, 1);
        x.row(0, 0, 0);
        x.old(0);
        x.choose(0, 1, 0);
        x.size(2, 2);
        for (int v = 0; v < 4; v++) {
            x.soil(v, v);
            x.worths(0, v, new int[] {10, 13, 17, 20}[v]);
        }
        choose(x, 0, 1, 1100, 0, 20, 33);
        x = Made.board(5, 2, 7, 1);
        two(x, "ten squares can't be parted 7 to 1", -5, -5, -5);
        x.size(2, 4);
        wantsOnly(x, 1, 4);
        x.place(0, 3);
        two(x, "heir 1 can't have 4 alone", -5, -5, -5);
        x = Made.contented(4, 5, 3);
        three(x, "the board before", 5110, 5210, 4);
        x.size(2, 3);
        wantsOnly(x, 1, 4);
        x.place(0, 3);
        three(x, "heir 1 can't have 4, and heir 2 be at the road", -5, -5, -5);
    }

    private static void mend() {
        sentence = "n times at most (1 to 20) BETTER is done: how often it was";
        String comb = "00000001 01111111 00000001 01111111 00000001 01111111 00000001 01111111";
        BrothersField x = laid(8, 8, 2, 0, comb);
        due("hedge", x.hedge(), 50);
        due("mend(1)", x.mend(1), 1);
        x = laid(8, 8, 2, 0, comb);
        due("mend(20)", x.mend(20), 20);
        due("there is more to do", x.better() >= 0 ? 1 : 0, 1);
        int more = x.mend(20);
        due("the rest is fewer", more > 0 && more < 20 ? 1 : 0, 1);
        due("nothing more", x.better(), -5);
        due("mend(1)", x.mend(1), 0);
        due("mend(20)", x.mend(20), 0);
        for (int wrong : new int[] {0, 21, -1, 100, MIN, MAX}) {
            due("mend(" + wrong + ")", x.mend(wrong), -6);
        }
        x = laid(5, 3, 2, 3, "00000 10101 11111");
        due("mend(1)", x.mend(1), 1);
        due("61 is done", x.owner(6), 1);
        due("and no more", x.owner(8), 0);
        due("mend(5)", x.mend(5), 1);
        due("81 is done", x.owner(8), 1);
        due("hedge", x.hedge(), 5);
        due("no refusal is counted", x.status(15), 0);
        due("no heirs", new BrothersField().mend(20), 0);
    }

    private static int old(int w, int h, String told) {
        BrothersField x = Made.board(w, h);
        x.row(7, 2, w * h);
        for (int i = 0, square = 0; i < told.length(); i++) {
            if (told.charAt(i) != ' ') {
                x.set(7, square, told.charAt(i) == '?' ? 2 : told.charAt(i) - '0');
                square++;
            }
        }
        return x.old(7);
    }

    private static void old() {
        sentence = "OLD: CUTS of KINDS 1, 2, 4, 5 (a, b, c as in TWO, THREE)";
        for (int w = 2; w <= 8; w++) {
            for (int h = 2; h <= 8; h++) {
                BrothersField x = Made.board(w, h);
                x.row(0, 0, 0);
                int cuts = w - 1 + (w + 1) * (h - 1) * (w + 1) + h - 1 + w * h - 1;
                due("all of " + w + " by " + h, x.old(0), cuts);
            }
        }
        due("all first: BENT a and c W alone", old(3, 4, "000 000 000 000"), 3);
        due("all second: BENT a and c 0 alone", old(3, 4, "111 111 111 111"), 3);
        due("first column: STRAIGHT, BENT by b, FROM", old(3, 4, "011 011 011 011"), 1 + 3 + 1);
        due("columns below the last", old(3, 4, "001 001 001 001"), 1 + 3 + 1);
        due("first row: BENT, ALONG, FROM", old(3, 4, "000 111 111 111"), 3);
        due("rows below the last", old(3, 4, "000 000 000 111"), 3);
        due("first corner: BENT, FROM", old(3, 4, "011 111 111 111"), 2);
        due("but for the last square: BENT", old(3, 4, "000 000 000 001"), 1);
        due("FROM in the midst, BENT", old(3, 4, "001 001 111 111"), 2);
        due("last row: BENT", old(3, 4, "111 111 111 000"), 1);
        due("last row's first: BENT", old(3, 4, "111 111 111 011"), 1);
        due("all but the first corner: no TOLD", old(3, 4, "100 000 000 000"), 0);
        due("last column first: no TOLD", old(3, 4, "110 110 110 110"), 0);
        due("four squares: BENT", old(3, 2, "000 011"), 1);
        due("no CUT", old(3, 3, "000 011 111"), 0);
        due("no CUT", old(4, 4, "0000 0000 0011 1111"), 0);
        due("no LANE", old(3, 3, "0?1 0?1 0?1"), 2 + 8 + 2);
    }

    private static void fits() {
        sentence = "a ROW tells of SQUARES by elements: 0 FIRST, 1 SECOND, others not known: a CUT FITS, if it has them so";
        BrothersField x = Made.board(2, 2);
        x.cut(0, 1100);
        int[] told = {0, 1, 2, -1, MIN, MAX, 9};
        for (int what : told) {
            Made.numbers(x, 1, 2, what);
            due("first told as " + what, x.fits(0, 1), what == 1 ? 0 : 1);
            Made.numbers(x, 1, 2, 7, what);
            due("second told as " + what, x.fits(0, 1), what == 0 ? 0 : 1);
        }
        Made.numbers(x, 1, 2);
        due("an empty row", x.fits(0, 1), 1);
        Made.numbers(x, 1, 2, 0, 1, 0, 1);
        due("all told", x.fits(0, 1), 1);
        Made.numbers(x, 1, 2, 0, 1, 0, 0);
        due("the last otherwise", x.fits(0, 1), 0);
        Made.numbers(x, 1, 2, 0, 1, 0, 1, 0, 1, 1, 0);
        due("elements beyond the squares", x.fits(0, 1), 1);
        due("old", x.old(1), 4 - 1);
        Made.numbers(x, 1, 3, 1L << 32, 1 + (1L << 32));
        due("as ints", x.fits(0, 1), 1);
        Made.numbers(x, 1, 0, 256, 257, 256, 257);
        due("bytes keep the lowest bits", x.fits(0, 1), 1);
        sentence = "A SQUARE of a LANE is neither 0 nor 1";
        x = Made.board(3, 2);
        x.cut(0, 3100);
        int[][] rows = {{0, 2, 1}, {0, 0, 1}, {0, 1, 1}, {2, 0}, {2, 1}, {2, 2, 2, 2, 0}, {2, 2, 2, 2, 1}, {2, 2, 2, 2, 3}};
        int[] fit = {1, 0, 0, 0, 0, 0, 0, 1};
        for (int i = 0; i < rows.length; i++) {
            x.row(1, 2, rows[i].length);
            for (int j = 0; j < rows[i].length; j++) {
                x.set(1, j, rows[i][j]);
            }
            due("row " + i, x.fits(0, 1), fit[i]);
        }
        x.cut(0, 3300);
        Made.numbers(x, 1, 2, 0, 0, 0, 0, 0, 0);
        due("a lane beyond", x.fits(0, 1), 1);
        sentence = "Whether the CUT in SHELF s FITS: a CUT of any KIND";
        x.cut(0, 30);
        Made.numbers(x, 1, 2, 0, 0, 0, 1);
        due("CUT", x.fits(0, 1), 1);
        x.cut(0, 40);
        due("CUT", x.fits(0, 1), 0);
        x.cut(0, 6310);
        Made.numbers(x, 1, 2, 1, 1, 1, 0);
        due("TOLD", x.fits(0, 1), 1);
        x.cut(0, 2310);
        due("BENT", x.fits(0, 1), 0);
    }

    private static void sure(BrothersField x, long first, long second) {
        due("sure of first", x.sure(0, 0), first);
        due("sure of second", x.sure(0, 1), second);
    }

    private static void sure() {
        sentence = "The SQUARES all these have FIRST (side 0), SECOND (1); 0 also if none FITS";
        BrothersField x = Made.board(3, 3);
        x.row(0, 0, 0);
        sure(x, 0, 0);
        Made.numbers(x, 0, 0, 0);
        sure(x, 1, 0);
        Made.numbers(x, 0, 0, 9, 9, 9, 9, 9, 9, 9, 9, 1);
        sure(x, 0, 0b100000000);
        Made.numbers(x, 0, 0, 0, 1, 9, 9, 9, 9, 9, 9, 1);
        sure(x, 0b000000001, 0b100100110);
        Made.numbers(x, 0, 0, 0, 9, 9, 9, 9, 0);
        sure(x, 0b000111001, 0);
        Made.numbers(x, 0, 0, 0, 0, 0, 0, 0, 0, 0, 0, 0);
        sure(x, 511, 0);
        Made.numbers(x, 0, 0, 1, 1, 1, 1, 1, 1, 1, 1, 1);
        sure(x, 0, 511);
        Made.numbers(x, 0, 0, 1, 0);
        due("none fits", x.old(0), 0);
        sure(x, 0, 0);
        x = Made.board(8, 8);
        x.row(0, 0, 64);
        sure(x, -1, 0);
        for (int i = 0; i < 64; i++) {
            x.set(0, i, 1);
        }
        sure(x, 0, -1);
    }

    private static void rows() {
        sentence = "A ROW has a SORT (0 bytes, 1 shorts, 2 ints, 3 longs) and 0 to 100 elements, 0 at first";
        BrothersField x = new BrothersField();
        for (int sort = 0; sort < 4; sort++) {
            for (int n : new int[] {0, 1, 100}) {
                due("row", x.row(sort, sort, n), 1);
                due("holds", x.holds(sort), 10000 + sort);
                due("the first is 0", x.element(sort, 0), 0);
                due("the last is 0", x.element(sort, n - 1), 0);
                due("set the last", x.set(sort, n - 1, 7), n == 0 ? -5 : 1);
                due("set beyond", x.set(sort, n, 7), -5);
                due("set below", x.set(sort, -1, 7), -5);
                due("the last", x.element(sort, n - 1), n == 0 ? 0 : 7);
                due("beyond", x.element(sort, n), 0);
            }
        }
        due("n 101", x.row(0, 0, 101), -7);
        due("n -1", x.row(0, 0, -1), -4);
        due("sort 4", x.row(0, 4, 0), -6);
        due("sort -1", x.row(0, -1, 0), -6);
        sentence = "what is put in keeps its lowest bits";
        long[] values = {0, 1, -1, 127, 128, 255, 256, -128, -129, 32767, 32768, 65535, 65536, -32768, -32769, MAX, MAX + 1L, MIN, MIN - 1L,
            (1L << 32) - 1, 1L << 32, Long.MAX_VALUE, Long.MIN_VALUE};
        for (int sort = 0; sort < 4; sort++) {
            for (long v : values) {
                x.set(sort, 99, v);
                long kept = sort == 0 ? (byte) v : sort == 1 ? (short) v : sort == 2 ? (int) v : v;
                due(v + " in sort " + sort, x.element(sort, 99), kept);
            }
        }
    }

    private static void copies() {
        sentence = "n of them, come to elements j, j + 1, .. of that in q (as they were ahead)";
        for (int from = 0; from <= 4; from++) {
            for (int to = 0; to <= 4; to++) {
                BrothersField x = new BrothersField();
                Made.numbers(x, 0, 1, 1, 2, 3, 4);
                for (int n = 0; n <= 5; n++) {
                    boolean fits = from + n <= 4 && to + n <= 4;
                    due("copy " + n + " from " + from + " to " + to, x.copy(0, 0, from, to, n), fits ? 1 : -5);
                    for (int i = 0; i < 4; i++) {
                        boolean moved = fits && i >= to && i < to + n;
                        due("element " + i, x.element(0, i), moved ? from + i - to + 1 : i + 1);
                    }
                    Made.numbers(x, 0, 1, 1, 2, 3, 4);
                }
            }
        }
        BrothersField x = new BrothersField();
        x.row(0, 3, 100);
        x.row(1, 3, 100);
        x.set(0, 99, Long.MIN_VALUE);
        due("a full row", x.copy(0, 1, 0, 0, 100), 1);
        due("its last", x.element(1, 99), Long.MIN_VALUE);
        due("one too many", x.copy(0, 1, 0, 0, 101), -5);
        x.row(2, 3, 0);
        due("an empty row", x.copy(2, 1, 0, 100, 0), 1);
        due("an empty row", x.copy(2, 2, 0, 0, 0), 1);
        due("one of an empty row", x.copy(2, 1, 0, 0, 1), -5);
        due("one into an empty row", x.copy(1, 2, 0, 0, 1), -5);
    }

    private static int parts(int kind, int m, int k, int x) {
        switch (kind) {
            case 1: case 5: return x + m + k;
            case 4: return -(x + m + k);
            case 6: return (x + m) * 2;
            default: return x + m;
        }
    }

    private static int weighs(int kind, int m, int k, int x) {
        switch (kind) {
            case 2: return parts(kind, m, k, x) * 2 * 3;
            case 4: return parts(kind, m, k, x + 1) * 2;
            case 6: return parts(kind, m, k, x - k) * 2 * 3;
            default: return parts(kind, m, k, x) * 2;
        }
    }

    private static int hedges(int kind, int m, int k, int x) {
        int plain = weighs(kind, m, k, x) ^ parts(kind, m, k, x - k);
        return kind == 3 ? plain - m : kind == 5 ? plain ^ 5 : plain;
    }

    private static void acts() {
        sentence = "ACTS of a CUT, with x (wrapping): 0 parts, 1 weighs, 2 hedges; m its SHELF, k its a";
        int[] xs = {0, 1, -1, 99, MAX, MAX - 7, MIN, MIN + 8, 1 << 30, -(1 << 30)};
        for (int kind = 0; kind < 7; kind++) {
            BrothersField x = new BrothersField();
            for (int m : new int[] {0, 7}) {
                for (int k : new int[] {0, 8}) {
                    x.cut(m, 1000 * kind + 100 * k + 53);
                    for (int v : xs) {
                        String who = "cut " + x.holds(m) + " on shelf " + m + " with " + v;
                        due(who + " parts", x.act(m, 0, v), parts(kind, m, k, v));
                        due(who + " weighs", x.act(m, 1, v), weighs(kind, m, k, v));
                        due(who + " hedges", x.act(m, 2, v), hedges(kind, m, k, v));
                    }
                }
            }
        }
    }

    private static void traces() {
        sentence = "THE TRACE: the numbers of the bodies that ran in the latest act(), in the order in which they began";
        int[][] bodies = {{12, 11, 10, 10}, {12, 11, 20, 10, 20, 10}, {12, 30, 11, 10, 10}, {40, 12, 11, 10, 10},
            {12, 50, 11, 51, 20, 10, 51, 20, 10}, {60, 12, 11, 20, 10, 20, 10}, {12, 71, 30, 11, 70, 10, 70, 10}};
        BrothersField x = new BrothersField();
        due("none at first", x.trace(0), -1);
        due("none at first", x.status(8), 0);
        for (int kind = 6; kind >= 0; kind--) {
            x.cut(kind, 1000 * kind + 100);
            x.act(kind, 2, 3);
            for (int i = 0; i < bodies[kind].length; i++) {
                due("kind " + kind + ", trace(" + i + ")", x.trace(i), bodies[kind][i]);
            }
            due("kind " + kind + ", its end", x.trace(bodies[kind].length), -1);
            due("kind " + kind + ", how many", x.status(8), bodies[kind].length);
            due("below", x.trace(-1), -1);
            due("beyond what is kept", x.trace(20), -1);
            due("far beyond", x.trace(MAX), -1);
            due("far below", x.trace(MIN), -1);
        }
        sentence = "0, and no TRACE then: none there, no such act";
        x.row(7, 0, 1);
        int[][] none = {{0, 3}, {0, -1}, {0, MIN}, {0, MAX}, {7, 0}, {8, 0}, {-1, 0}, {MAX, 0}};
        for (int[] call : none) {
            x.act(0, 0, 5);
            due("a trace", x.trace(0), 10);
            due("act(" + call[0] + ", " + call[1] + ", 5)", x.act(call[0], call[1], 5), 0);
            due("no trace", x.trace(0), -1);
            due("no bodies", x.status(8), 0);
        }
        x.cut(0, -1);
        due("act of nothing", x.act(0, 0, 5), 0);
        for (int count = 11; count <= 17; count++) {
            due("nothing is refused", x.status(count), 0);
        }
    }

    private static void owning() {
        sentence = "lay: FIRST for one, SECOND for another (HEIRS, 9, NONE), the LANE (if any) THE LANE: how many SQUARES changed";
        int[] whose = {0, 1, 9, -1};
        for (int first : whose) {
            for (int second : whose) {
                BrothersField x = Made.board(3, 2, 1, 1);
                x.cut(0, 3100);
                due("lay", x.lay(0, first, second), (first < 0 ? 0 : 2) + (second < 0 ? 0 : 2) + 2);
                due("owner", x.owner(0), first);
                due("owner", x.owner(4), 9);
                due("owner", x.owner(5), second);
                due("again none changes", x.lay(0, first, second), 0);
                x.cut(0, 1000);
                due("all is second", x.lay(0, 9, second), (first == second ? 0 : 2) + (second == 9 ? 0 : 2));
            }
        }
        sentence = "owners: by elements 0 on (HEIRS, 9, others nobody; missing ones nobody)";
        BrothersField x = Made.board(3, 2, 1, 1);
        x.own(63, 1);
        Made.numbers(x, 0, 2, 0, 1, 2, 9, 8, 10);
        due("owners", x.owners(0), 2);
        int[] owners = {0, 1, -1, 9, -1, -1};
        for (int i = 0; i < 6; i++) {
            due("owner " + i, x.owner(i), owners[i]);
        }
        Made.numbers(x, 0, 2, MIN, MAX, -1, -2, 1);
        due("owners", x.owners(0), 1);
        due("nobody's", x.piece(-1), 0b101111);
        Made.numbers(x, 0, 2);
        due("an empty row", x.owners(0), 0);
        due("all nobody's", x.piece(-1), 63);
        x.row(0, 2, 100);
        due("a full row", x.owners(0), 6);
        due("all of heir 0", x.piece(0), 63);
        Made.numbers(x, 0, 3, 1 + (1L << 32), 1L << 32, 9 - (1L << 32));
        due("as ints", x.owners(0), 2);
        due("heir 1", x.piece(1), 1);
        due("heir 0", x.piece(0), 2);
        due("the lane", x.piece(9), 4);
        sentence = "A set of SQUARES is owned by ..: how many SQUARES it has";
        due("the empty set", x.own(0, 0), 0);
        due("all", x.own(63, 0), 6);
        due("all again", x.own(63, 0), 6);
        due("one beyond", x.own(64, 0), -1);
        due("one beyond with others", x.own(65, 1), -1);
        due("the last bit", x.own(Long.MIN_VALUE, 1), -1);
        due("it stays", x.piece(0), 63);
    }

    private static void judge() {
        sentence = "The first HEIR whose WORTH of his own isn't element i of the ROW (missing ones: 0); NONE: all are";
        BrothersField x = Made.board(3, 2, 1, 1, 1);
        x.row(0, 2, 0);
        due("none has anything", x.judge(0), -1);
        Made.owners(x, "011 222");
        due("an empty row", x.judge(0), 0);
        Made.numbers(x, 0, 2, 10);
        due("the second is missing", x.judge(0), 1);
        Made.numbers(x, 0, 2, 10, 20);
        due("the third is missing", x.judge(0), 2);
        Made.numbers(x, 0, 2, 10, 20, 30);
        due("all are", x.judge(0), -1);
        Made.numbers(x, 0, 2, 10, 20, 30, 40);
        due("more elements than heirs", x.judge(0), -1);
        Made.numbers(x, 0, 2, 11, 21, 30);
        due("the first of two", x.judge(0), 0);
        Made.numbers(x, 0, 3, 10 + (1L << 32), 20, 30);
        due("as ints", x.judge(0), -1);
        x.heir(1);
        due("a new one has nothing", x.judge(0), -1);
        Made.numbers(x, 0, 2, 10, 20, 30, 1);
        due("but not 1", x.judge(0), 3);
        x = new BrothersField();
        Made.numbers(x, 0, 2, 5);
        due("no heirs", x.judge(0), -1);
    }

    private static void pieces() {
        sentence = "How many pieces the SQUARES of a set hang together in. 0: none, SQUARES that there aren't";
        BrothersField x = Made.board(5, 4);
        due("none", x.parts(0), 0);
        due("all", x.parts((1 << 20) - 1), 1);
        due("one beyond", x.parts(1 << 20), 0);
        due("some, and one beyond", x.parts(3 | 1 << 20), 0);
        due("bit 63", x.parts(Long.MIN_VALUE), 0);
        due("the last", x.parts(1 << 19), 1);
        due("a spiral", x.parts(Made.set("xxxxx ....x xxx.x xxxxx")), 1);
        due("two by corners", x.parts(Made.set("xx... xx... ..xx. ..xx.")), 2);
        due("the end of a row and the head of the next", x.parts(Made.set("....x x.... ....x x....")), 4);
        due("a chessboard", x.parts(Made.set("x.x.x .x.x. x.x.x .x.x.")), 10);
        x.size(8, 8);
        due("a full board", x.parts(-1), 1);
        due("both ends", x.parts(1 | Long.MIN_VALUE), 2);
        due("the most pieces", x.parts(0x55AA55AA55AA55AAL), 32);
    }

    public static void main(String[] args) {
        twoHeirs();
        twoEdges();
        twoBest();
        wellOfTwo();
        lanesParted();
        threeHeirs();
        threeBest();
        choosing();
        envies();
        evens();
        better();
        searchesApart();
        searchedAnew();
        mend();
        old();
        fits();
        sure();
        rows();
        copies();
        acts();
        traces();
        owning();
        judge();
        pieces();
        Due.end();
    }
}
