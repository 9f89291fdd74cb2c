/** Objects and rows made ready for a test. */
public final class Made {
    private Made() {
    }

    /** A board with heirs of these shares, to whom each soil is worth 10. */
    public static BrothersField board(int w, int h, int... shares) {
        BrothersField x = new BrothersField();
        x.size(w, h);
        for (int share : shares) {
            x.heir(share);
        }
        return x;
    }

    /** A board with heirs to whom all is worth nothing, so that what they have is always their due. */
    public static BrothersField contented(int w, int h, int heirs) {
        BrothersField x = board(w, h);
        for (int p = 0; p < heirs; p++) {
            x.heir(1);
            for (int v = 0; v < 6; v++) {
                x.worths(p, v, 0);
            }
        }
        return x;
    }

    /** A shelf with a row of letters. */
    public static void text(BrothersField x, int s, int sort, String letters) {
        x.row(s, sort, letters.length());
        for (int i = 0; i < letters.length(); i++) {
            x.set(s, i, letters.charAt(i));
        }
    }

    /** A shelf with a row of numbers. */
    public static void numbers(BrothersField x, int s, int sort, long... values) {
        x.row(s, sort, values.length);
        for (int i = 0; i < values.length; i++) {
            x.set(s, i, values[i]);
        }
    }

    /** Whose each square is, row by row: a digit is an heir, L the lane, . nobody; blanks are passed over. */
    public static void owners(BrothersField x, String picture) {
        int square = 0;
        for (int i = 0; i < picture.length(); i++) {
            char sign = picture.charAt(i);
            if (sign != ' ') {
                x.own(1L << square, sign == 'L' ? 9 : sign == '.' ? -1 : sign - '0');
                square++;
            }
        }
    }

    /** A set of squares, row by row: x is of it; blanks are passed over. */
    public static long set(String picture) {
        long set = 0;
        int square = 0;
        for (int i = 0; i < picture.length(); i++) {
            if (picture.charAt(i) != ' ') {
                set |= picture.charAt(i) == 'x' ? 1L << square : 0;
                square++;
            }
        }
        return set;
    }
}
