/** Promise by promise: ordinary inputs, the edges that the document names, wrong inputs. */
public final class PromisesTest {
    private static final int MAX = Integer.MAX_VALUE;
    private static final int MIN = Integer.MIN_VALUE;

    private static String promise = "";

    private static void due(String call, long got, long want) {
        Due.is(promise + ": " + call, got, want);
    }

    private static void refusals(BrothersField x, int... counts) {
        for (int i = 0; i < 7; i++) {
            due("status(" + (11 + i) + ")", x.status(11 + i), counts[i]);
        }
    }

    private static BrothersField twoByTwo(int heirs) {
        BrothersField x = new BrothersField();
        x.size(2, 2);
        for (int p = 0; p < heirs; p++) {
            x.heir(1);
        }
        return x;
    }

    private static void newObject() {
        promise = "1";
        BrothersField x = new BrothersField();
        int[] status = {4, 4, 0, 0, -1, -1, 1, 0, 0, -1, -1, 0, 0, 0, 0, 0, 0, 0, -1};
        for (int i = 0; i < status.length; i++) {
            due("status(" + i + ")", x.status(i), status[i]);
        }
        for (int s = 0; s < 8; s++) {
            due("holds", x.holds(s), -1);
        }
        for (int s = 0; s < 16; s++) {
            due("owner", x.owner(s), -1);
            due("soil", x.soil(s, 0), 0);
        }
        due("fault", x.fault(), -1);
        due("trace", x.trace(0), -1);
        due("NONE", BrothersField.NONE, -1);
    }

    private static void row() {
        promise = "2";
        BrothersField x = new BrothersField();
        due("row(0, 3, 100)", x.row(0, 3, 100), 1);
        due("holds", x.holds(0), 10003);
        due("element", x.element(0, 99), 0);
        x.set(0, 99, 5);
        due("row(8, 9, -1)", x.row(8, 9, -1), -1);
        due("row(-1, 0, 1)", x.row(-1, 0, 1), -1);
        due("row(0, 9, -1)", x.row(0, 9, -1), -4);
        due("row(0, 4, 101)", x.row(0, 4, 101), -6);
        due("row(0, -1, 1)", x.row(0, -1, 1), -6);
        due("row(0, 0, 101)", x.row(0, 0, 101), -7);
        due("row(0, 0, MAX)", x.row(0, 0, MAX), -7);
        due("row(0, 0, MIN)", x.row(0, 0, MIN), -4);
        due("still there", x.element(0, 99), 5);
        due("row again", x.row(0, 3, 100), 1);
        due("all 0 again", x.element(0, 99), 0);
        x.cut(7, 1100);
        due("row over a cut", x.row(7, 0, 0), 1);
        due("holds", x.holds(7), 10000);
        due("says", x.says(7, 0), -2);
        refusals(x, 2, 1, 0, 2, 0, 2, 2);
    }

    private static void set() {
        promise = "3";
        BrothersField x = new BrothersField();
        long[][] kept = {{300, 44}, {128, -128}, {-129, 127}, {40000, -25536}, {-32769, 32767},
            {(1L << 32) + 7, 7}, {1L << 31, MIN}, {Long.MIN_VALUE, Long.MIN_VALUE}, {Long.MAX_VALUE, Long.MAX_VALUE}};
        int[] sorts = {0, 0, 0, 1, 1, 2, 2, 3, 3};
        for (int i = 0; i < kept.length; i++) {
            x.row(i % 8, sorts[i], 2);
            due("set", x.set(i % 8, 1, kept[i][0]), 1);
            due("kept", x.element(i % 8, 1), kept[i][1]);
            due("beside", x.element(i % 8, 0), 0);
        }
        x.cut(1, 0);
        x.cut(2, -1);
        due("no shelf", x.set(8, 0, 1), -1);
        due("no shelf", x.set(-1, 0, 1), -1);
        due("a cut", x.set(1, 5, 1), -2);
        due("nothing", x.set(2, 5, 1), -3);
        due("below", x.set(0, -1, 1), -5);
        due("end", x.set(0, 2, 1), -5);
        refusals(x, 2, 1, 1, 0, 2, 0, 0);
    }

    private static void copy() {
        promise = "4";
        BrothersField x = new BrothersField();
        Made.numbers(x, 0, 1, 1, 2, 3, 4, 5);
        due("up over itself", x.copy(0, 0, 0, 1, 4), 1);
        for (int i = 0; i < 5; i++) {
            due("element", x.element(0, i), new int[] {1, 1, 2, 3, 4}[i]);
        }
        due("down over itself", x.copy(0, 0, 2, 0, 3), 1);
        for (int i = 0; i < 5; i++) {
            due("element", x.element(0, i), new int[] {2, 3, 4, 3, 4}[i]);
        }
        x.row(1, 1, 2);
        due("to another", x.copy(0, 1, 4, 1, 1), 1);
        due("element", x.element(1, 1), 4);
        due("element", x.element(1, 0), 0);
        due("none at the end", x.copy(0, 1, 5, 2, 0), 1);
        x.row(2, 2, 9);
        x.cut(3, 0);
        due("no shelf", x.copy(8, 3, 0, 0, -1), -1);
        due("no shelf", x.copy(3, -1, 0, 0, -1), -1);
        due("a cut", x.copy(0, 3, 0, 0, -1), -2);
        due("a cut and nothing", x.copy(3, 4, 0, 0, 1), -2);
        due("nothing and a cut", x.copy(4, 3, 0, 0, 1), -2);
        due("two sorts", x.copy(0, 2, 0, 0, -1), -2);
        due("nothing", x.copy(0, 4, 0, 0, -1), -3);
        due("nothing", x.copy(4, 0, 0, 0, -1), -3);
        due("size", x.copy(0, 1, -1, 0, -1), -4);
        due("i", x.copy(0, 1, -1, 0, 1), -5);
        due("j", x.copy(0, 1, 0, -1, 1), -5);
        due("end of p", x.copy(0, 1, 4, 0, 2), -5);
        due("end of q", x.copy(0, 1, 0, 1, 2), -5);
        due("past the end, none", x.copy(0, 1, 6, 0, 0), -5);
        due("past the end, none", x.copy(0, 1, 0, 3, 0), -5);
        due("wrapping", x.copy(0, 0, MAX, 0, MAX), -5);
        due("wrapping", x.copy(0, 0, 0, MAX, 2), -5);
        due("unchanged", x.element(0, 0), 2);
        refusals(x, 2, 4, 2, 1, 8, 0, 0);
    }

    private static void element() {
        promise = "5";
        BrothersField x = new BrothersField();
        Made.numbers(x, 0, 3, 7, 1L << 60);
        x.cut(1, 6888);
        due("one", x.element(0, 1), 1L << 60);
        long[] none = {x.element(0, 2), x.element(0, -1), x.element(1, 0), x.element(2, 0), x.element(8, 0),
            x.element(-1, 0), x.element(MIN, MAX)};
        for (long v : none) {
            due("none", v, 0);
        }
        refusals(x, 0, 0, 0, 0, 0, 0, 0);
    }

    private static void cutAndHolds() {
        promise = "6 and 7";
        BrothersField x = new BrothersField();
        for (int code : new int[] {0, 888, 1234, 2088, 3808, 4880, 5111, 6888}) {
            due("cut(" + code + ")", x.cut(7, code), 1);
            due("holds", x.holds(7), code);
        }
        due("no kind", x.cut(7, 7000), -1);
        due("no kind", x.cut(7, 7900), -1);
        due("no kind", x.cut(7, 10000), -1);
        due("no kind", x.cut(7, MAX), -1);
        due("no shelf", x.cut(8, -1), -1);
        due("no shelf", x.cut(-1, -5), -1);
        due("a", x.cut(7, 900), -6);
        due("b", x.cut(7, 2190), -6);
        due("c", x.cut(7, 6009), -6);
        due("below", x.cut(7, -2), -6);
        due("below", x.cut(7, -7000), -6);
        due("below", x.cut(7, MIN), -6);
        due("still there", x.holds(7), 6888);
        due("away", x.cut(7, -1), 0);
        due("holds nothing", x.holds(7), -1);
        due("away again", x.cut(7, -1), 0);
        x.row(0, 2, 3);
        due("holds a row", x.holds(0), 10002);
        due("cut over a row", x.cut(0, 5), 1);
        due("holds", x.holds(0), 5);
        due("no row", x.element(0, 0), 0);
        x.row(0, 1, 3);
        due("row away", x.cut(0, -1), 0);
        due("holds", x.holds(0), -1);
        due("no shelf", x.holds(8), -1);
        due("no shelf", x.holds(-1), -1);
        refusals(x, 6, 0, 0, 0, 0, 6, 0);
    }

    private static void says() {
        promise = "8";
        BrothersField x = new BrothersField();
        x.size(5, 3);
        int[] codes = {78, 1200, 2213, 3200, 4258, 5238, 6213};
        int[][] said = {{7, -2, -2, -2, -2, -2, -2}, {6, 9, -2, -2, -2, -2, -2}, {8, -2, 1, -2, -2, -2, -2},
            {6, -2, -2, 3, -2, -2, -2}, {10, 5, -2, -2, 2, -2, -2}, {6, 9, -2, -2, -2, 6, -2}, {7, -2, 1, -2, -2, -2, 1}};
        for (int k = 0; k < 7; k++) {
            x.cut(k, codes[k]);
            for (int kind = 0; kind < 7; kind++) {
                due("says(" + codes[k] + ", " + kind + ")", x.says(k, kind), said[k][kind]);
            }
        }
        x.cut(0, 3500);
        due("a lane beyond", x.says(0, 3), 0);
        x.cut(0, 5888);
        due("a times b", x.says(0, 5), 64);
        x.cut(0, -1);
        x.row(1, 0, 1);
        due("no kind", x.says(0, 7), -1);
        due("no kind", x.says(1, -1), -1);
        due("no shelf", x.says(8, 0), -1);
        due("a row", x.says(1, 6), -2);
        due("nothing", x.says(0, 6), -3);
        refusals(x, 3, 34, 1, 0, 0, 0, 0);
    }

    private static void side() {
        promise = "9";
        BrothersField x = new BrothersField();
        x.size(3, 3);
        int[] codes = {48, 1100, 2213, 3100, 4200, 5120, 6213, 3300, 888, 1000, 4888, 2080};
        int[] first = {0b000001111, 0b001001001, 0b111111011, 0b001001001, 0b000111111, 0b000001001, 0b000000100,
            511, 511, 0, 511, 0};
        int[] lane = {0, 0, 0, 0b010010010, 0, 0, 0, 0, 0, 0, 0, 0};
        for (int i = 0; i < codes.length; i++) {
            x.cut(0, codes[i]);
            due("first of " + codes[i], x.side(0, 0), first[i]);
            due("second of " + codes[i], x.side(0, 1), 511 & ~first[i] & ~lane[i]);
            due("lane of " + codes[i], x.side(0, 2), lane[i]);
        }
        x.size(8, 8);
        x.cut(0, 4800);
        due("whole board", x.side(0, 0), -1);
        due("nothing left", x.side(0, 1), 0);
        x.cut(0, 1700);
        due("last column", x.side(0, 1), 0x8080808080808080L);
        x.cut(0, 77);
        due("63 squares", x.side(0, 0), 127);
        x.cut(0, 777);
        due("63 squares", x.side(0, 0), Long.MAX_VALUE);
        x.row(1, 0, 1);
        due("a row", x.side(1, 0), 0);
        due("nothing", x.side(2, 0), 0);
        due("no shelf", x.side(8, 0), 0);
        due("no shelf", x.side(-1, 0), 0);
        due("no side", x.side(0, 3), 0);
        due("no side", x.side(0, -1), 0);
        refusals(x, 0, 0, 0, 0, 0, 0, 0);
    }

    private static void field() {
        promise = "10";
        BrothersField x = new BrothersField();
        x.own(1, -1);
        x.place(1, 3);
        x.place(2, 4);
        x.soil(2, 5);
        x.heir(3);
        x.own(255, 0);
        Made.text(x, 0, 0, "size 8 2;soil 4 14 15;soil 3 15 15;road 3;well 9;oak 08;small 20;heir 9 0 01 99 4 5 6");
        due("field", x.field(0), 8);
        int[] status = {8, 2, 2, 3, 9, 8, 20, 0};
        for (int i = 0; i < status.length; i++) {
            due("status(" + i + ")", x.status(i), status[i]);
        }
        due("soil", x.soil(2, 0), 0);
        due("soil", x.soil(13, 0), 0);
        due("soil", x.soil(14, 0), 4);
        due("soil", x.soil(15, 0), 3);
        due("share", x.heirOf(1, 0), 9);
        for (int v = 0; v < 6; v++) {
            due("worth", x.heirOf(1, 10 + v), new int[] {0, 1, 99, 4, 5, 6}[v]);
        }
        due("the heir before", x.heirOf(0, 0), 3);
        x.own(1, 1);
        x.fond(1, true);
        Made.text(x, 1, 3, "road 2");
        x.set(1, 0, 'r' + (5L << 32));
        due("told over what is there", x.field(1), 1);
        due("road", x.status(3), 2);
        due("owner", x.owner(0), 1);
        due("well", x.status(4), 9);
        Made.text(x, 1, 1, "size 8 2");
        due("same size", x.field(1), 1);
        due("owned by nobody", x.owner(0), -1);
        due("no well", x.status(4), -1);
        due("no oak", x.status(5), -1);
        due("small", x.status(6), 20);
        due("fond", x.heirOf(1, 1), 1);
        x.own(3, 1);
        Made.text(x, 1, 0, "small 3;size 2 2;heir 1 1 1 1 1 1 1;road 4");
        due("or nothing", x.field(1), -6);
        due("small", x.status(6), 20);
        due("w", x.status(0), 8);
        due("heirs", x.status(2), 2);
        due("piece", x.piece(1), 3);
        x.cut(2, 0);
        due("no shelf", x.field(8), -1);
        due("no shelf", x.field(-1), -1);
        due("a cut", x.field(2), -2);
        due("nothing", x.field(3), -3);
        refusals(x, 2, 1, 1, 0, 0, 1, 0);
    }

    private static void fault() {
        promise = "11";
        BrothersField x = new BrothersField();
        String[] texts = {"", "s", "si", "size", "size ", "size 4", "size 4 ", "size 4 4;", "x", "sx", "sixe", "sox",
            "smal", "smalx", "size4", "size  4", "size x", "size 1 4", "size 9 4", "size 4 1", "size 4 4 ", "size 4 4x",
            "size 04 4;soil 6 0 0", "soil 5 16 16", "soil 5 3 2", "soil 5 3 16", "road 4", "road 12", "road 123", "well 16",
            "well 015", "oak 99", "small 21", "small 200", "small 1;;", "heir 0 1 1 1 1 1 1", "heir 10 1 1 1 1 1 1",
            "heir 1 1 1 1 1 1", "heir 1 1 1 1 1 1 100", "heir 1 1 1 1 1 1 1 ", "size 2 2;well 4", "well 4;size 2 2;oak 4",
            "Size 4 4", " size 4 4", "size 4 4;soil 1 2", "road -1", "heiro", "size 1", "soil 1 3 2", "oak  1", "well 1;oak 1 1"};
        int[] faults = {0, 1, 2, 4, 5, 6, 7, 9, 0, 1, 2, 2,
            4, 4, 4, 5, 5, 5, 5, 7, 8, 8,
            15, 7, 9, 9, 5, 5, 5, 5,
            7, 4, 6, 8, 8, 5, 5,
            16, 19, 18, 14, 20,
            0, 0, 17, 5, 4, 5, 9, 4, 12};
        for (int i = 0; i < texts.length; i++) {
            Made.text(x, 0, i % 4, texts[i]);
            due("field(" + texts[i] + ")", x.field(0), -6);
            due("fault of " + texts[i], x.fault(), faults[i]);
            if (i % 10 == 9) {
                x = new BrothersField();
                due("none yet", x.fault(), -1);
            }
        }
        x = new BrothersField();
        Made.text(x, 0, 0, "heir 1 1 1 1 1 1 1;heir 1 1 1 1 1 1 1;heir 1 1 1 1 1 1 1;heir 1 1 1 1 1 1 1");
        due("four heirs", x.field(0), 4);
        due("no fault", x.fault(), -1);
        Made.text(x, 0, 0, "road 1;heir 1 1 1 1 1 1 1;road 2;heir 1 1 1 1 1 1 1");
        due("six heirs", x.field(0), -6);
        due("the word of the sixth", x.fault(), 33);
        due("four heirs still", x.status(2), 4);
        due("that of the latest that came to a row", x.field(5), -3);
        due("fault", x.fault(), 33);
        Made.numbers(x, 1, 0, 'r', 'o', 'a', 'd', -' ', '1');
        due("no letter", x.field(1), -6);
        due("fault", x.fault(), 4);
        Made.numbers(x, 1, 3, 'r', 'o', 'a', 'd', ' ' + (1L << 31), '1');
        due("no letter as ints", x.field(1), -6);
        due("fault", x.fault(), 4);
        Made.text(x, 1, 0, "road 1");
        due("field", x.field(1), 1);
        due("none", x.fault(), -1);
    }

    private static void size() {
        promise = "12";
        BrothersField x = new BrothersField();
        x.heir(2);
        x.place(0, 2);
        x.place(1, 3);
        x.place(2, 3);
        x.place(3, 7);
        x.soil(1, 4);
        x.own(6, 0);
        due("size(4, 4)", x.size(4, 4), 1);
        due("soil", x.soil(1, 0), 0);
        due("owner", x.owner(1), -1);
        int[] status = {4, 4, 1, 2, -1, -1, 7, 0};
        for (int i = 0; i < status.length; i++) {
            due("status(" + i + ")", x.status(i), status[i]);
        }
        due("size(2, 8)", x.size(2, 8), 1);
        due("w", x.status(0), 2);
        due("h", x.status(1), 8);
        x.own(1, 0);
        int[][] wrong = {{1, 4}, {9, 4}, {4, 1}, {4, 9}, {MIN, 4}, {4, MAX}, {-4, -4}, {0, 0}};
        for (int[] wh : wrong) {
            due("size(" + wh[0] + ", " + wh[1] + ")", x.size(wh[0], wh[1]), -6);
        }
        due("unchanged", x.owner(0), 0);
        refusals(x, 0, 0, 0, 0, 0, 8, 0);
    }

    private static void soil() {
        promise = "13";
        BrothersField x = new BrothersField();
        due("soil(15, 5)", x.soil(15, 5), 0);
        due("soil(15, 2)", x.soil(15, 2), 5);
        due("soil(15, 2)", x.soil(15, 2), 2);
        due("soil(14, 0)", x.soil(14, 0), 0);
        int[][] wrong = {{16, 0}, {-1, 0}, {0, 6}, {0, -1}, {MIN, MAX}};
        for (int[] w : wrong) {
            due("soil", x.soil(w[0], w[1]), -1);
        }
        x.size(8, 8);
        due("soil(63, 1)", x.soil(63, 1), 0);
        due("soil(63, 1)", x.soil(63, 1), 1);
        due("soil(64, 1)", x.soil(64, 1), -1);
        refusals(x, 6, 0, 0, 0, 0, 0, 0);
    }

    private static void place() {
        promise = "14";
        BrothersField x = new BrothersField();
        int[][] calls = {{0, 3, 0}, {0, 0, 3}, {0, 4, -16}, {0, -1, -16}, {1, 15, -1}, {1, 0, 15}, {1, -1, 0}, {1, 5, -1},
            {1, 16, -16}, {1, -2, -16}, {2, 15, -1}, {2, -1, 15}, {2, 0, -1}, {2, 16, -16}, {3, 0, 1}, {3, 20, 0},
            {3, 21, -16}, {3, -1, -16}, {4, 0, -16}, {-1, 0, -16}, {MIN, MAX, -16}};
        for (int[] c : calls) {
            due("place(" + c[0] + ", " + c[1] + ")", x.place(c[0], c[1]), c[2]);
        }
        for (int i = 0; i < 4; i++) {
            due("status", x.status(3 + i), new int[] {0, 5, 0, 20}[i]);
        }
        refusals(x, 0, 0, 0, 0, 0, 10, 0);
    }

    private static void heirs() {
        promise = "15 to 18";
        BrothersField x = new BrothersField();
        due("share 0", x.heir(0), -6);
        due("share 10", x.heir(10), -6);
        due("share -1", x.heir(MIN), -6);
        for (int p = 0; p < 5; p++) {
            due("heir", x.heir(p * 2 + 1), p);
        }
        due("a sixth with a wrong share", x.heir(10), -6);
        due("a sixth", x.heir(1), -7);
        for (int v = 0; v < 6; v++) {
            due("worths at first", x.worths(4, v, 90 + v), 10);
            due("heirOf", x.heirOf(4, 10 + v), 90 + v);
            due("another's", x.heirOf(3, 10 + v), 10);
        }
        due("worths", x.worths(4, 0, 0), 90);
        due("worths", x.worths(4, 0, 99), 0);
        int[][] wrong = {{5, 0, 1, -1}, {-1, 0, 1, -1}, {0, 6, 100, -1}, {0, -1, 1, -1}, {0, 0, 100, -6}, {0, 0, -1, -6}, {5, 0, 100, -1}};
        for (int[] w : wrong) {
            due("worths(" + w[0] + ", " + w[1] + ", " + w[2] + ")", x.worths(w[0], w[1], w[2]), w[3]);
        }
        due("fond", x.fond(2, false), 0);
        due("fond", x.fond(2, true), 1);
        due("fond", x.fond(2, true), 0);
        due("is fond", x.heirOf(2, 1), 1);
        due("another isn't", x.heirOf(1, 1), 0);
        due("fond no more", x.fond(2, false), 1);
        due("isn't fond", x.heirOf(2, 1), 0);
        due("fond", x.fond(5, true), -1);
        due("fond", x.fond(-1, false), -1);
        x.own(0xF0F, 3);
        due("share", x.heirOf(3, 0), 7);
        due("squares", x.heirOf(3, 2), 8);
        due("squares of another", x.heirOf(4, 2), 0);
        int[][] none = {{5, 0}, {-1, 10}, {0, 3}, {0, 9}, {0, 16}, {0, -1}, {MAX, MIN}, {0, MAX}};
        for (int[] w : none) {
            due("heirOf(" + w[0] + ", " + w[1] + ")", x.heirOf(w[0], w[1]), -5);
        }
        refusals(x, 7, 0, 0, 0, 8, 6, 1);
    }

    private static void worth() {
        promise = "19";
        BrothersField x = new BrothersField();
        x.heir(1);
        x.heir(1);
        x.soil(0, 5);
        x.soil(15, 1);
        x.worths(1, 5, 99);
        x.worths(1, 1, 0);
        x.place(2, 15);
        x.fond(1, true);
        due("by soil", x.worth(1, 0b11), 109);
        due("with the oak", x.worth(1, 1L << 15), 20);
        due("not fond", x.worth(0, 1L << 15), 10);
        due("all", x.worth(1, 65535), 99 + 140 + 20);
        due("none", x.worth(1, 0), 0);
        due("no such square", x.worth(1, 1L << 16), -1);
        due("no such square", x.worth(1, Long.MIN_VALUE), -1);
        due("no such heir", x.worth(2, 1), -1);
        due("no such heir", x.worth(-1, 1), -1);
        x.place(2, -1);
        due("no oak", x.worth(1, 65535), 99 + 140);
        x.size(8, 8);
        x.place(2, 63);
        due("eight by eight", x.worth(1, -1), 660);
        due("the last", x.worth(1, Long.MIN_VALUE), 30);
        due("all but the last", x.worth(1, Long.MAX_VALUE), 630);
        refusals(x, 4, 0, 0, 0, 0, 0, 0);
    }

    private static void owning() {
        promise = "20, 21 and 24";
        BrothersField x = new BrothersField();
        x.heir(1);
        x.heir(1);
        due("own", x.own(0b1110, 1), 3);
        due("own again", x.own(0b1100, 0), 2);
        due("lane", x.own(0b11000, 9), 2);
        due("none", x.own(0, 1), 0);
        int[] owners = {-1, 1, 0, 9, 9, -1};
        for (int s = 0; s < owners.length; s++) {
            due("owner(" + s + ")", x.owner(s), owners[s]);
        }
        due("piece", x.piece(0), 0b100);
        due("piece", x.piece(1), 0b10);
        due("piece", x.piece(9), 0b11000);
        due("piece", x.piece(-1), 65535 & ~0b11110);
        for (int o : new int[] {2, 5, 6, 8, 10, -2, MIN, MAX}) {
            due("no piece of " + o, x.piece(o), 0);
            due("own for " + o, x.own(1, o), -1);
        }
        due("nobody's", x.own(0b10, -1), 1);
        due("owner", x.owner(1), -1);
        due("no such square", x.own(1L << 16, 0), -1);
        due("no such square", x.own(-1, 0), -1);
        for (int s : new int[] {16, -1, 64, MIN, MAX}) {
            due("owner(" + s + ")", x.owner(s), -1);
        }
        x.size(8, 8);
        due("all", x.own(-1, 1), 64);
        due("piece", x.piece(1), -1);
        due("owner", x.owner(63), 1);
        refusals(x, 10, 0, 0, 0, 0, 0, 0);
    }

    private static void lay() {
        promise = "22";
        BrothersField x = new BrothersField();
        x.heir(1);
        x.heir(1);
        x.cut(0, 3100);
        due("lane", x.lay(0, 0, 1), 16);
        due("first", x.piece(0), 0x1111);
        due("the lane", x.piece(9), 0x2222);
        due("second", x.piece(1), 0xCCCC);
        due("again", x.lay(0, 0, 1), 0);
        due("changed", x.lay(0, 1, 0), 12);
        due("both", x.lay(0, 0, 0), 4);
        x.cut(0, 4200);
        due("lane and nobody", x.lay(0, 9, -1), 8 - 2 + 8);
        due("piece", x.piece(-1), 0xFF00);
        due("piece", x.piece(9), 0xFF);
        x.cut(0, 1100);
        due("without a lane", x.lay(0, 1, 0), 16);
        x.row(1, 0, 1);
        due("no shelf", x.lay(8, 0, 1), -1);
        due("no owner", x.lay(1, 2, 1), -1);
        due("no owner", x.lay(0, 0, 2), -1);
        due("no owner", x.lay(2, -2, 0), -1);
        due("no owner", x.lay(0, 0, 10), -1);
        due("a row", x.lay(1, 0, 1), -2);
        due("nothing", x.lay(2, 0, 1), -3);
        refusals(x, 5, 1, 1, 0, 0, 0, 0);
    }

    private static void owners() {
        promise = "23";
        BrothersField x = new BrothersField();
        x.size(3, 2);
        x.heir(1);
        x.heir(1);
        x.own(63, 1);
        Made.numbers(x, 0, 3, 1, 9, 2, 0 + (1L << 32), -1);
        due("owners", x.owners(0), 2);
        int[] owners = {1, 9, -1, 0, -1, -1};
        for (int s = 0; s < 6; s++) {
            due("owner(" + s + ")", x.owner(s), owners[s]);
        }
        Made.numbers(x, 0, 0, 0, 1, 0, 1, 0, 1, 0, 1, 1, 1);
        due("longer than the field", x.owners(0), 6);
        due("piece", x.piece(1), 0b101010);
        x.row(0, 0, 0);
        due("none told", x.owners(0), 0);
        due("nobody", x.piece(-1), 63);
        x.cut(1, 0);
        due("no shelf", x.owners(8), -1);
        due("a cut", x.owners(1), -2);
        due("nothing", x.owners(2), -3);
        refusals(x, 1, 1, 1, 0, 0, 0, 0);
    }

    private static void hedge() {
        promise = "25";
        BrothersField x = new BrothersField();
        due("nobody's all", x.hedge(), 0);
        x.heir(1);
        x.heir(1);
        x.own(1 << 5, 0);
        due("one within", x.hedge(), 4);
        x.own(1 << 6, 9);
        due("the lane beside", x.hedge(), 7);
        x.own(1 << 6, 0);
        due("two alike", x.hedge(), 6);
        x.own(65535, 0);
        x.own(0x5A5A, 1);
        due("like a chessboard", x.hedge(), 24);
        x.size(8, 8);
        x.own(0xFFFFFFFFL, 0);
        due("halves", x.hedge(), 8);
        x.own(0x8080808080808080L, 1);
        due("no square is beside one of the row below it", x.hedge(), 7 + 8);
    }

    private static void verdict(BrothersField x, String what, int fault, int whose) {
        due(what + ": faulty", x.faulty(), fault);
        due(what + ": whose", x.whose(), whose);
    }

    private static void faults() {
        promise = "26 and 27";
        BrothersField x = new BrothersField();
        verdict(x, "nobody", 1, 0);
        x.own(65535, 9);
        verdict(x, "all the lane's", 0, -1);
        x = Made.contented(4, 4, 2);
        x.own(0x3333, 0);
        x.own(0xCCC4, 1);
        verdict(x, "a square is nobody's", 1, 3);
        x.own(8, 1);
        verdict(x, "halves", 0, -1);
        x.own(1, 1);
        verdict(x, "in two pieces", 2, 1);
        x.own(1, 0);
        x.place(3, 8);
        verdict(x, "just enough", 0, -1);
        x.own(2, 1);
        verdict(x, "fewer than small", 2, 0);
        x.place(3, 0);
        x.own(65535, 1);
        verdict(x, "none at all hang together", 3, 0);
        x.place(3, 1);
        verdict(x, "none at all are fewer", 2, 0);
        faultsOfTheRoad();
        faultsOfTheWell();
        faultsOfTheDue();
    }

    private static void faultsOfTheRoad() {
        BrothersField x = Made.contented(4, 4, 2);
        x.own(0x00FF, 0);
        x.own(0xFF00, 1);
        int[] whose = {1, -1, 0, -1};
        for (int road = 0; road < 4; road++) {
            x.place(0, road);
            verdict(x, "road " + road, whose[road] < 0 ? 0 : 3, whose[road]);
        }
        x.place(0, 0);
        x.own(0x0088, 9);
        verdict(x, "a lane to the road", 0, -1);
        x.own(0x0080, 0);
        verdict(x, "a lane that ends too early", 3, 1);
        x.own(0x0008, 0);
        x.own(0x0080, 9);
        verdict(x, "a lane that isn't at the road", 3, 1);
        x.own(0x0008, 9);
        x.own(0x0800, 9);
        x.own(0x8000, 9);
        verdict(x, "a lane all through", 0, -1);
        x.own(0x0880, 0);
        x.own(0x0800, 9);
        verdict(x, "a part of the lane that isn't at the road", 3, 1);
        x.own(0xFFFF, 9);
        x.own(0x8000, 0);
        x.own(0x1000, 1);
        verdict(x, "far off, but by the lane", 0, -1);
    }

    private static void faultsOfTheWell() {
        BrothersField x = Made.contented(4, 4, 2);
        x.own(0x1111, 0);
        x.own(0xEEEE, 1);
        x.place(1, 0);
        verdict(x, "a well beside", 0, -1);
        x.place(1, 2);
        verdict(x, "a well too far", 4, 0);
        x.place(1, 1);
        verdict(x, "a well of his, beside the other", 0, -1);
        x.own(0x0004, 9);
        x.place(1, 2);
        verdict(x, "a well of the lane", 0, -1);
        x.place(1, 3);
        verdict(x, "a well beside the lane alone", 4, 0);
        x.place(1, 4);
        verdict(x, "no neighbour over the edge", 0, -1);
        x.place(1, 7);
        verdict(x, "no neighbour over the edge", 4, 0);
        x.place(1, -1);
        verdict(x, "no well", 0, -1);
    }

    private static void faultsOfTheDue() {
        BrothersField x = Made.contented(4, 4, 2);
        x.own(0x1111, 0);
        x.own(0xEEEE, 1);
        x.worths(0, 0, 10);
        verdict(x, "a quarter for a half", 5, 0);
        x.own(0x3333, 0);
        verdict(x, "a half for a half", 0, -1);
        x.heir(2);
        verdict(x, "none for another half", 2, 2);
        for (int v = 0; v < 6; v++) {
            x.worths(2, v, 0);
        }
        x.own(0x6666, 1);
        x.own(0x8888, 2);
        verdict(x, "a quarter for a quarter", 0, -1);
        x.place(2, 1);
        x.fond(1, true);
        verdict(x, "the oak is his", 0, -1);
        x.place(2, 3);
        verdict(x, "the oak is all his worth", 5, 1);
        x.fond(1, false);
        x.own(0x0002, 9);
        verdict(x, "a square of the lane's that is worth nothing to him", 0, -1);
        x.own(0x1000, 9);
        verdict(x, "the lane's squares count for due", 5, 0);
        x.worths(1, 0, 1);
        verdict(x, "the first of two", 5, 0);
        x.own(0x1000, 0);
        verdict(x, "seven for four and a bit", 0, -1);
    }

    private static void parts() {
        promise = "28";
        BrothersField x = new BrothersField();
        due("none", x.parts(0), 0);
        due("corner by corner", x.parts(0b100001), 2);
        due("over the edge", x.parts(0b11000), 2);
        due("a ring", x.parts(0xF99F), 1);
        due("chessboard", x.parts(0x5A5A), 8);
        due("no such", x.parts(1L << 16), 0);
        due("no such", x.parts(-1), 0);
        x.size(8, 8);
        due("all", x.parts(-1), 1);
        due("the last", x.parts(Long.MIN_VALUE), 1);
        due("chessboard", x.parts(0xAA55AA55AA55AA55L), 32);
        due("a long way", x.parts(0xFF01FF80FF01FF80L), 1);
        refusals(x, 0, 0, 0, 0, 0, 0, 0);
    }

    private static void best(BrothersField x, int code, int other, int hedge) {
        int[] told = {code, other, hedge};
        for (int what = 0; what < 3; what++) {
            int got = x.status(2) == 2 ? x.two(what) : x.three(what);
            due(x.status(2) + " heirs, what " + what, got, told[what]);
        }
    }

    private static void two() {
        promise = "29";
        BrothersField x = twoByTwo(2);
        best(x, 1100, 0, 2);
        x.soil(1, 1);
        x.soil(3, 1);
        x.worths(0, 0, 0);
        x.worths(1, 1, 0);
        best(x, 1100, 1, 2);
        x.place(0, 1);
        best(x, 2012, 0, 2);
        x.worths(1, 1, 10);
        x.worths(1, 0, 0);
        best(x, 2012, 0, 2);
        x.place(0, 3);
        best(x, 2012, 0, 2);
        x.soil(3, 0);
        best(x, -5, -5, -5);
        x = twoByTwo(2);
        x.place(0, 3);
        best(x, 2012, 0, 2);
        x.own(15, 9);
        best(x, 2012, 0, 2);
        due("owners stay", x.piece(9), 15);
        x.place(3, 3);
        best(x, -5, -5, -5);
        x = twoByTwo(2);
        x.worths(1, 0, 0);
        best(x, 1100, 0, 2);
        x = new BrothersField();
        x.size(2, 2);
        x.heir(3);
        x.heir(1);
        best(x, 2110, 1, 2);
        x.place(0, 2);
        best(x, 2011, 1, 2);
        due("another what", x.two(3), -5);
        due("another what", x.two(-1), -5);
        x.heir(1);
        due("three heirs", x.two(0), -5);
        refusals(x, 0, 0, 0, 0, 3, 0, 0);
        due("one heir", twoByTwo(1).two(0), -5);
        due("none", twoByTwo(0).two(0), -5);
    }

    private static void three() {
        promise = "30";
        BrothersField x = new BrothersField();
        x.size(3, 2);
        for (int p = 0; p < 3; p++) {
            x.heir(1);
        }
        best(x, 1100, 1200, 4);
        x.size(2, 3);
        x.place(0, 3);
        best(x, 4100, 4200, 4);
        x.place(0, 0);
        best(x, -5, -5, -5);
        x = Made.contented(4, 4, 3);
        x.size(2, 2);
        best(x, -5, -5, -5);
        x.size(3, 2);
        x.place(3, 1);
        x.own(63, 9);
        best(x, 1100, 1200, 4);
        x.worths(0, 0, 10);
        best(x, 1100, 1200, 4);
        x.worths(2, 0, 10);
        best(x, 1100, 1200, 4);
        due("owners stay", x.piece(9), 63);
        due("another what", x.three(3), -5);
        due("another what", x.three(-1), -5);
        x.heir(1);
        due("four heirs", x.three(0), -5);
        x = Made.contented(4, 4, 3);
        x.place(0, 3);
        x.soil(0, 1);
        x.worths(0, 1, 5);
        x.own(65535, 9);
        due("a corner for the first", x.three(0), 5110);
        due("a corner less that for the second", x.three(1), 5120);
        due("hedge", x.three(2), 4);
        due("two heirs", twoByTwo(2).three(0), -5);
        x = new BrothersField();
        x.size(3, 4);
        x.heir(1);
        x.heir(2);
        x.heir(1);
        best(x, -5, -5, -5);
        x.place(0, 1);
        best(x, 4100, 4300, 6);
        x.place(1, 9);
        best(x, -5, -5, -5);
    }

    private static void choose() {
        promise = "31";
        BrothersField x = twoByTwo(2);
        x.soil(0, 1);
        x.worths(0, 1, 30);
        due("code", x.choose(0, 1, 0), 2110);
        due("side", x.choose(0, 1, 1), 1);
        due("for the other", x.choose(0, 1, 2), 30);
        due("for him", x.choose(0, 1, 3), 30);
        due("code", x.choose(1, 0, 0), 1100);
        due("side", x.choose(1, 0, 1), 0);
        due("for the other", x.choose(1, 0, 2), 40);
        due("for him", x.choose(1, 0, 3), 20);
        x.worths(1, 1, 30);
        due("alike: first", x.choose(0, 1, 1), 0);
        due("for him", x.choose(0, 1, 3), 30);
        x.heir(1);
        x.place(2, 3);
        x.fond(2, true);
        due("with the oak", x.choose(0, 2, 2), 50);
        due("he who cuts", x.choose(2, 0, 0), 2211);
        due("no heir", x.choose(3, 3, 4), -1);
        due("no heir", x.choose(0, -1, 0), -1);
        due("no heir", x.choose(-1, 0, 0), -1);
        due("no heir", x.choose(0, 3, 0), -1);
        due("another what", x.choose(0, 0, 4), -5);
        due("another what", x.choose(0, 1, -1), -5);
        due("one", x.choose(2, 2, 3), -6);
        refusals(x, 4, 0, 0, 0, 2, 1, 0);
    }

    private static void enviesAndEvens() {
        promise = "32 and 33";
        BrothersField x = new BrothersField();
        x.heir(1);
        x.heir(2);
        x.heir(3);
        x.own(0x0003, 0);
        x.own(0x00F0, 1);
        x.own(0xF000, 2);
        due("envies", x.envies(0), 0b110);
        due("alike", x.envies(1), 0);
        x.soil(12, 1);
        x.worths(1, 1, 11);
        due("envies", x.envies(1), 0b100);
        due("evens", x.evens(0), (160 - 20 * 6) / 6);
        due("evens", x.evens(1), (2 * 161 - 40 * 6) / 6);
        due("evens", x.evens(2), (3 * 160 - 40 * 6) / 6);
        x.own(0xFFFF, 0);
        due("evens below 0 are cut toward 0", x.evens(0), -133);
        due("evens", x.evens(2), 80);
        x.own(0xFFFF, 9);
        due("the lane is nobody to envy", x.envies(0), 0);
        for (int heir : new int[] {3, -1, 9, MIN, MAX}) {
            due("envies", x.envies(heir), -1);
            due("evens", x.evens(heir), -1000001);
        }
        refusals(x, 10, 0, 0, 0, 0, 0, 0);
        x.heir(1);
        x.heir(1);
        due("nor with all heirs there", x.envies(4), 0);
        x.own(1, 0);
        due("the first is one to envy", x.envies(4), 1);
    }

    private static void betterAndMend() {
        promise = "34 and 35";
        BrothersField x = Made.contented(4, 4, 2);
        x.own(0x3337, 0);
        x.own(0xCCC8, 1);
        due("hedge", x.hedge(), 5);
        due("better", x.better(), 21);
        due("better changes nothing", x.hedge(), 5);
        due("mend", x.mend(5), 1);
        due("hedge", x.hedge(), 4);
        due("piece", x.piece(0), 0x3333);
        due("none better", x.better(), -5);
        due("mend", x.mend(20), 0);
        x.own(0x0004, 9);
        due("the lane's stay", x.better(), -5);
        x.own(0x0004, -1);
        due("nobody's stay", x.better(), -5);
        x.own(0x0004, 1);
        x.own(0x0020, 1);
        due("faulty ahead", x.faulty(), 0);
        x.own(0x0100, 1);
        due("faulty ahead", x.faulty(), 2);
        due("one of two: the first square that leaves no fault", x.better(), 80);
        due("mend", x.mend(1), 1);
        due("then", x.better(), 50);
        due("mend", x.mend(3), 1);
        x.place(0, 1);
        x.own(0x0008, 0);
        due("faulty: not at the road", x.faulty(), 2);
        for (int n : new int[] {0, 21, -1, MIN, MAX}) {
            due("mend(" + n + ")", x.mend(n), -6);
        }
        refusals(x, 0, 0, 0, 0, 3, 5, 0);
        x = Made.contented(4, 4, 4);
        x.own(0xFFFF, 3);
        x.own(0x000F, 0);
        due("no heir without a square", x.better(), -5);
        x = Made.contented(4, 4, 5);
        x.own(0xFFFF, 9);
        x.own(0x0600, 0);
        x.own(0x0001, 1);
        x.own(0x0008, 2);
        x.own(0x1000, 3);
        x.own(0x8000, 4);
        due("not faulty by the lane", x.faulty(), 0);
        due("nothing goes to the lane", x.better(), -5);
        x = Made.contented(4, 4, 3);
        x.place(3, 0);
        x.size(3, 3);
        x.own(0b001001001, 0);
        x.own(0b010010010, 1);
        x.own(0b100100100, 2);
        due("straight", x.better(), -5);
        x.own(0b000010000, 2);
        due("not back into line: the other makes less hedge", x.better(), 72);
    }

    private static void fits() {
        promise = "36";
        BrothersField x = new BrothersField();
        x.cut(0, 1200);
        x.cut(1, 3200);
        Made.numbers(x, 2, 0, 0, 0, 7, 1, 0, 2, -1, 1);
        due("straight", x.fits(0, 2), 1);
        due("lane", x.fits(1, 2), 1);
        x.set(2, 2, 1);
        due("straight", x.fits(0, 2), 1);
        due("lane is not second", x.fits(1, 2), 0);
        x.set(2, 2, 0);
        due("straight", x.fits(0, 2), 0);
        due("lane is not first", x.fits(1, 2), 0);
        Made.numbers(x, 2, 3, 1L << 32);
        due("as ints", x.fits(0, 2), 1);
        Made.numbers(x, 2, 3, 1 + (1L << 32));
        due("as ints", x.fits(0, 2), 0);
        x.row(2, 0, 0);
        due("nothing told", x.fits(0, 2), 1);
        x.row(2, 0, 100);
        for (int s = 0; s < 16; s++) {
            x.set(2, s, 2);
        }
        due("beyond the field", x.fits(0, 2), 1);
        due("no shelf", x.fits(8, 0), -1);
        due("no shelf", x.fits(2, -1), -1);
        due("both rows", x.fits(2, 2), -2);
        due("both cuts", x.fits(0, 0), -2);
        due("nothing and a cut", x.fits(5, 0), -2);
        due("a row and nothing", x.fits(2, 5), -2);
        due("nothing", x.fits(5, 2), -3);
        due("nothing", x.fits(0, 5), -3);
        refusals(x, 2, 4, 2, 0, 0, 0, 0);
    }

    private static void oldAndSure() {
        promise = "37 and 38";
        BrothersField x = twoByTwo(0);
        x.row(0, 0, 0);
        due("all cuts", x.old(0), 14);
        due("sure", x.sure(0, 0), 0);
        due("sure", x.sure(0, 1), 0);
        Made.numbers(x, 0, 0, 0);
        due("first corner", x.old(0), 11);
        due("sure", x.sure(0, 0), 1);
        due("sure", x.sure(0, 1), 0);
        Made.numbers(x, 0, 0, 0, 5, 5, 1);
        due("two corners", x.old(0), 9);
        due("sure", x.sure(0, 0), 1);
        due("sure", x.sure(0, 1), 8);
        Made.numbers(x, 0, 0, 1, 2, 2, 0);
        due("sure before all else", x.sure(0, 1), 3);
        Made.numbers(x, 0, 0, 1, 0, 0, 0);
        due("sure of none", x.sure(0, 1), 0);
        due("none fits", x.old(0), 0);
        due("sure", x.sure(0, 0), 0);
        due("sure", x.sure(0, 1), 0);
        x.size(8, 8);
        x.row(0, 0, 0);
        due("eight by eight", x.old(0), 7 + 7 + 63 + 567);
        x.size(2, 8);
        due("two by eight", x.old(0), 1 + 7 + 15 + 63);
        x.size(8, 2);
        due("eight by two", x.old(0), 7 + 1 + 15 + 81);
        Made.numbers(x, 0, 2, 1, 5, 1);
        due("bent alone", x.old(0), 9);
        due("sure of the whole row", x.sure(0, 1), 0xFF);
        x.cut(1, 0);
        due("no shelf", x.old(8), -1);
        due("a cut", x.old(1), -2);
        due("nothing", x.old(2), -3);
        due("no shelf", x.sure(-1, 2), -1);
        due("a cut", x.sure(1, 2), -2);
        due("nothing", x.sure(2, 2), -3);
        due("no side", x.sure(0, 2), -5);
        due("no side", x.sure(0, -1), -5);
        refusals(x, 2, 2, 2, 0, 2, 0, 0);
    }

    private static void judge() {
        promise = "39";
        BrothersField x = new BrothersField();
        x.row(0, 3, 0);
        due("no heirs", x.judge(0), -1);
        x.heir(1);
        x.heir(1);
        x.heir(1);
        due("missing ones are 0", x.judge(0), -1);
        x.own(0x00F, 0);
        x.own(0x0F0, 1);
        due("missing ones", x.judge(0), 0);
        Made.numbers(x, 0, 3, 40, 40 + (7L << 32));
        due("all are", x.judge(0), -1);
        x.set(0, 1, 41);
        due("the second isn't", x.judge(0), 1);
        Made.numbers(x, 0, 3, 40, 40, 1);
        due("the third isn't", x.judge(0), 2);
        x.cut(1, 0);
        due("no shelf", x.judge(8), -11);
        due("no shelf", x.judge(-1), -11);
        due("a cut", x.judge(1), -12);
        due("nothing", x.judge(2), -13);
        refusals(x, 2, 1, 1, 0, 0, 0, 0);
    }

    private static void act(BrothersField x, int code, int act, int value, int... bodies) {
        x.cut(3, code);
        String call = "act " + act + " of " + code;
        due(call, x.act(3, act, 5), value);
        for (int i = 0; i < bodies.length; i++) {
            due(call + ": trace(" + i + ")", x.trace(i), bodies[i]);
        }
        due(call + ": end of the trace", x.trace(bodies.length), -1);
        due(call + ": bodies", x.status(8), bodies.length);
    }

    private static void acts() {
        promise = "40 and 41";
        BrothersField x = new BrothersField();
        act(x, 200, 0, 8, 10);
        act(x, 200, 1, 16, 11, 10);
        act(x, 200, 2, 22, 12, 11, 10, 10);
        act(x, 1200, 0, 10, 20, 10);
        act(x, 1200, 1, 20, 11, 20, 10);
        act(x, 1200, 2, 28, 12, 11, 20, 10, 20, 10);
        act(x, 2200, 0, 8, 10);
        act(x, 2200, 1, 48, 30, 11, 10);
        act(x, 2200, 2, 54, 12, 30, 11, 10, 10);
        act(x, 3200, 0, 8, 10);
        act(x, 3200, 1, 16, 11, 10);
        act(x, 3200, 2, 19, 40, 12, 11, 10, 10);
        act(x, 4200, 0, -10, 51, 20, 10);
        act(x, 4200, 1, -22, 50, 11, 51, 20, 10);
        act(x, 4200, 2, 18, 12, 50, 11, 51, 20, 10, 51, 20, 10);
        act(x, 5200, 0, 10, 20, 10);
        act(x, 5200, 1, 20, 11, 20, 10);
        act(x, 5200, 2, 25, 60, 12, 11, 20, 10, 20, 10);
        act(x, 6200, 0, 16, 70, 10);
        act(x, 6200, 1, 72, 71, 30, 11, 70, 10);
        act(x, 6200, 2, 68, 12, 71, 30, 11, 70, 10, 70, 10);
        x.cut(7, 0);
        due("wrapping", x.act(7, 0, MAX), MIN + 6);
        due("wrapping", x.act(7, 1, MAX), 12);
        for (int act : new int[] {3, -1, MIN}) {
            x.act(7, 0, 0);
            due("no such act", x.act(7, act, 1), 0);
            due("no trace", x.trace(0), -1);
            due("no bodies", x.status(8), 0);
        }
        x.row(6, 0, 1);
        for (int s : new int[] {6, 5, 8, -1}) {
            x.act(7, 0, 0);
            due("no cut", x.act(s, 0, 1), 0);
            due("no trace", x.trace(0), -1);
            due("no bodies", x.status(8), 0);
        }
        x.act(7, 2, 0);
        due("below", x.trace(-1), -1);
        due("beyond", x.trace(20), -1);
        due("far below", x.trace(MIN), -1);
        refusals(x, 0, 0, 0, 0, 0, 0, 0);
    }

    private static void imageAndRestore() {
        promise = "42 and 43";
        BrothersField x = new BrothersField();
        due("none taken", x.restore(), -6);
        x.size(3, 5);
        x.heir(2);
        x.heir(7);
        x.worths(1, 3, 33);
        x.fond(1, true);
        x.soil(7, 3);
        x.place(0, 2);
        x.place(1, 8);
        x.place(2, 7);
        x.place(3, 4);
        x.own(0x0F, 0);
        x.own(0xF0, 9);
        x.own(0x700, 1);
        due("image", x.image(), 2);
        x.worths(1, 3, 1);
        x.fond(1, false);
        x.soil(7, 1);
        x.own(0xFF, 1);
        x.place(0, 1);
        x.place(3, 5);
        x.heir(1);
        x.size(6, 6);
        x.row(0, 1, 4);
        x.cut(1, 1100);
        Made.text(x, 2, 0, "x");
        x.field(2);
        x.act(1, 0, 0);
        due("restore", x.restore(), 2);
        int[] status = {3, 5, 2, 2, 8, 7, 4, 7, 2};
        for (int i = 0; i < status.length; i++) {
            due("status(" + i + ")", x.status(i), status[i]);
        }
        due("worth", x.heirOf(1, 13), 33);
        due("fond", x.heirOf(1, 1), 1);
        due("share", x.heirOf(1, 0), 7);
        due("piece", x.piece(0), 0x0F);
        due("piece", x.piece(1), 0x700);
        due("piece", x.piece(9), 0xF0);
        due("piece", x.piece(-1), 0x7800);
        due("shelves stay", x.holds(0), 10001);
        due("shelves stay", x.holds(1), 1100);
        due("fault stays", x.fault(), 0);
        due("trace stays", x.trace(0), 20);
        due("soil", x.soil(7, 0), 3);
        x.own(1, 1);
        due("restore again", x.restore(), 2);
        due("soil", x.soil(7, 0), 3);
        due("owner", x.owner(0), 0);
        due("heir again", x.heir(5), 2);
        due("a new heir is as new", x.heirOf(2, 1), 0);
        due("image", x.image(), 3);
        x.size(2, 2);
        due("the latest image", x.restore(), 3);
        due("w", x.status(0), 3);
        refusals(x, 0, 0, 0, 0, 0, 2, 0);
    }

    private static void status() {
        promise = "44";
        BrothersField x = new BrothersField();
        x.heir(1);
        x.heir(1);
        x.own(0x0F, 1);
        x.own(0x10, 0);
        x.own(0x20, 9);
        x.place(0, 3);
        x.place(1, 9);
        x.place(2, 10);
        x.place(3, 11);
        x.size(5, 4);
        x.own(0x0F, 1);
        x.own(0x10, 0);
        x.own(0x20, 9);
        int[] status = {5, 4, 2, 3, -1, -1, 11, 5, 0};
        for (int i = 0; i < status.length; i++) {
            due("status(" + i + ")", x.status(i), status[i]);
        }
        x.place(1, 19);
        x.place(2, 18);
        due("well", x.status(4), 19);
        due("oak", x.status(5), 18);
        x.evens(7);
        x.judge(3);
        x.place(9, 9);
        x.row(0, 0, -1);
        x.row(0, 0, 101);
        x.better();
        x.cut(0, 0);
        x.owners(0);
        refusals(x, 1, 1, 1, 1, 1, 1, 1);
        for (int what : new int[] {9, 10, 18, -1, 100, MIN, MAX}) {
            due("status(" + what + ")", x.status(what), -1);
        }
    }

    public static void main(String[] args) {
        newObject();
        row();
        set();
        copy();
        element();
        cutAndHolds();
        says();
        side();
        field();
        fault();
        size();
        soil();
        place();
        heirs();
        worth();
        owning();
        lay();
        owners();
        hedge();
        faults();
        parts();
        two();
        three();
        choose();
        enviesAndEvens();
        betterAndMend();
        fits();
        oldAndSure();
        judge();
        acts();
        imageAndRestore();
        status();
        Due.end();
    }
}
