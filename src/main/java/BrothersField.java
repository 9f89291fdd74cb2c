/**
 * A field of squares that brothers part among them: soils, heirs, cuts, owners, faults and the best
 * partings. What each call promises stands in DOC.md. Sets of squares are bits of a long throughout.
 */
public final class BrothersField {
    public static final int NONE = -1;

    private static final int SHELVES = 8;
    private static final int KINDS = 7;
    private static final int SOILS = 6;
    private static final int MOST_HEIRS = 5;
    private static final int MOST_ELEMENTS = 100;
    private static final int MOST_SQUARES = 64;
    private static final int MOST_SMALL = 20;
    private static final int MOST_SHARE = 9;
    private static final int MOST_WORTH = 99;
    private static final int MOST_MENDS = 20;
    private static final int LEAST_SIDE = 2;
    private static final int MOST_SIDE = 8;
    private static final int KEPT_BODIES = 20;
    private static final int OAK_WORTH = 20;
    private static final int ROW_CODE = 10000;

    /** The lane's owner number, and where sets by owner keep the lane's and nobody's squares. */
    private static final int THE_LANE = 9;
    private static final int LANE_SLOT = MOST_HEIRS;
    private static final int NOBODY_SLOT = MOST_HEIRS + 1;
    private static final int SLOTS = MOST_HEIRS + 2;

    private static final int STRAIGHT_CODE = 1000;
    private static final int BENT_CODE = 2000;
    private static final int ALONG_CODE = 4000;
    private static final int FROM_CODE = 5000;

    /** Eight by eight: 7 straight, 9 * 7 * 9 bent, 7 along, 63 from a corner. */
    private static final int MOST_CUTS = 644;

    private static final int NO_SUCH = -1;
    private static final int OTHER = -2;
    private static final int NOTHING = -3;
    private static final int BELOW = -4;
    private static final int BEYOND = -5;
    private static final int WRONG = -6;
    private static final int ROOM = -7;
    private static final int REFUSAL_KINDS = 7;

    private final Row[] heldRows = new Row[SHELVES];
    private final Cut[] heldCuts = new Cut[SHELVES];
    private final Row trace = new Row();
    private final Field now = new Field();
    private final Field kept = new Field();
    private final Field draft = new Field();
    private final Search search = new Search();
    private final long[] laid = new long[SLOTS];
    private final int[] refusals = new int[REFUSAL_KINDS + 1];
    private boolean imageTaken = false;
    private int textFault = NONE;

    public BrothersField() {
        for (int s = 0; s < SHELVES; s++) {
            heldRows[s] = new Row();
        }
    }

    public int row(int s, int sort, int n) {
        if (!isShelf(s)) {
            return refuse(NO_SUCH);
        }
        if (n < 0) {
            return refuse(BELOW);
        }
        if (sort < 0 || sort > 3) {
            return refuse(WRONG);
        }
        if (n > MOST_ELEMENTS) {
            return refuse(ROOM);
        }
        heldCuts[s] = null;
        heldRows[s].renew(sort, n);
        return 1;
    }

    public int set(int s, int i, long v) {
        int refusal = noRow(s);
        if (refusal != 0) {
            return refuse(refusal);
        }
        if (!heldRows[s].has(i)) {
            return refuse(BEYOND);
        }
        heldRows[s].put(i, v);
        return 1;
    }

    public int copy(int p, int q, int i, int j, int n) {
        int refusal = earlier(noRow(p), noRow(q));
        if (refusal != 0) {
            return refuse(refusal);
        }
        if (heldRows[p].sort != heldRows[q].sort) {
            return refuse(OTHER);
        }
        if (n < 0) {
            return refuse(BELOW);
        }
        if (!heldRows[p].hasRange(i, n) || !heldRows[q].hasRange(j, n)) {
            return refuse(BEYOND);
        }
        System.arraycopy(heldRows[p].elements, i, heldRows[q].elements, j, n);
        return 1;
    }

    public long element(int s, int i) {
        return noRow(s) == 0 ? heldRows[s].at(i) : 0;
    }

    public int cut(int s, int code) {
        if (!isShelf(s) || code / 1000 >= KINDS) {
            return refuse(NO_SUCH);
        }
        if (code < NONE || (code != NONE && !hasCutNumbers(code))) {
            return refuse(WRONG);
        }
        heldRows[s].drop();
        heldCuts[s] = code == NONE ? null : newCut(s, code);
        return code == NONE ? 0 : 1;
    }

    public int holds(int s) {
        if (!isShelf(s)) {
            return NONE;
        }
        if (heldCuts[s] != null) {
            return heldCuts[s].code;
        }
        return heldRows[s].isHeld() ? ROW_CODE + heldRows[s].sort : NONE;
    }

    public int says(int s, int kind) {
        int refusal = noCut(s);
        if (refusal == NO_SUCH || kind < 0 || kind >= KINDS) {
            return refuse(NO_SUCH);
        }
        if (refusal != 0) {
            return refuse(refusal);
        }
        if (!heldCuts[s].isOf(kind)) {
            return refuse(OTHER);
        }
        return toldAs(heldCuts[s], kind);
    }

    public long side(int s, int side) {
        return noCut(s) == 0 ? sideOf(heldCuts[s], side) : 0;
    }

    public int field(int s) {
        int refusal = noRow(s);
        if (refusal != 0) {
            return refuse(refusal);
        }
        draft.become(now);
        Reader reader = new Reader(heldRows[s], draft);
        int items = reader.readItems();
        textFault = reader.fault;
        if (textFault != NONE) {
            return refuse(WRONG);
        }
        now.become(draft);
        return items;
    }

    public int fault() {
        return textFault;
    }

    public int size(int w, int h) {
        if (w < LEAST_SIDE || w > MOST_SIDE || h < LEAST_SIDE || h > MOST_SIDE) {
            return refuse(WRONG);
        }
        now.resize(w, h);
        return 1;
    }

    public int soil(int square, int v) {
        if (!now.isSquare(square) || v < 0 || v >= SOILS) {
            return refuse(NO_SUCH);
        }
        int was = now.soilAt(square);
        now.laySoil(now.only(square), v);
        return was;
    }

    public int place(int what, int v) {
        if (!mayStand(what, v)) {
            return refuseAs(WRONG, -16);
        }
        int was = now.placeOf(what);
        now.setPlace(what, v);
        return was;
    }

    public int heir(int share) {
        if (share < 1 || share > MOST_SHARE) {
            return refuse(WRONG);
        }
        if (now.heirs >= MOST_HEIRS) {
            return refuse(ROOM);
        }
        return now.addHeir(share);
    }

    public int worths(int heir, int soil, int v) {
        if (!now.isHeir(heir) || soil < 0 || soil >= SOILS) {
            return refuse(NO_SUCH);
        }
        if (v < 0 || v > MOST_WORTH) {
            return refuse(WRONG);
        }
        int was = now.soilWorths[heir][soil];
        now.soilWorths[heir][soil] = v;
        return was;
    }

    public int fond(int heir, boolean is) {
        if (!now.isHeir(heir)) {
            return refuse(NO_SUCH);
        }
        boolean was = now.isFond[heir];
        now.isFond[heir] = is;
        return was == is ? 0 : 1;
    }

    public int heirOf(int heir, int what) {
        if (!now.isHeir(heir)) {
            return refuse(BEYOND);
        }
        if (what >= 10 && what < 10 + SOILS) {
            return now.soilWorths[heir][what - 10];
        }
        switch (what) {
            case 0: return now.shares[heir];
            case 1: return now.isFond[heir] ? 1 : 0;
            case 2: return Long.bitCount(now.owned[heir]);
            default: return refuse(BEYOND);
        }
    }

    public int worth(int heir, long set) {
        if (!now.isHeir(heir) || !now.hasAll(set)) {
            return refuse(NO_SUCH);
        }
        return now.worthOf(heir, set);
    }

    public int owner(int square) {
        return now.ownerAt(square);
    }

    public int own(long set, int owner) {
        int slot = now.slotOf(owner);
        if (!now.hasAll(set) || slot == NONE) {
            return refuse(NO_SUCH);
        }
        Field.give(now.owned, set, slot);
        return Long.bitCount(set);
    }

    public int lay(int s, int first, int second) {
        int refusal = noCut(s);
        int firstSlot = now.slotOf(first);
        int secondSlot = now.slotOf(second);
        if (refusal == NO_SUCH || firstSlot == NONE || secondSlot == NONE) {
            return refuse(NO_SUCH);
        }
        if (refusal != 0) {
            return refuse(refusal);
        }
        Field.empty(laid);
        laid[firstSlot] |= sideOf(heldCuts[s], 0);
        laid[secondSlot] |= sideOf(heldCuts[s], 1);
        laid[LANE_SLOT] |= sideOf(heldCuts[s], 2);
        return now.takeOwners(laid);
    }

    public int owners(int s) {
        int refusal = noRow(s);
        if (refusal != 0) {
            return refuse(refusal);
        }
        Field.empty(laid);
        for (int square = 0; square < now.squares(); square++) {
            int slot = heldRows[s].has(square) ? now.slotOf(heldRows[s].intAt(square)) : NONE;
            laid[slot == NONE ? NOBODY_SLOT : slot] |= now.only(square);
        }
        now.takeOwners(laid);
        return now.ownedByHeirs();
    }

    public long piece(int owner) {
        int slot = now.slotOf(owner);
        return slot == NONE ? 0 : now.owned[slot];
    }

    public int hedge() {
        return now.hedgeOf(now.owned);
    }

    public int faulty() {
        return now.verdictOn(now.owned) / 100;
    }

    public int whose() {
        int verdict = now.verdictOn(now.owned);
        return verdict == 0 ? NONE : verdict % 100;
    }

    public int parts(long set) {
        return now.hasAll(set) ? now.piecesOf(set) : 0;
    }

    public int two(int what) {
        if (what < 0 || what > 2 || !search.findTwo(now)) {
            return refuse(BEYOND);
        }
        return search.best(what);
    }

    public int three(int what) {
        if (what < 0 || what > 2 || !search.findThree(now)) {
            return refuse(BEYOND);
        }
        return search.best(what);
    }

    public int choose(int cuts, int takes, int what) {
        if (!now.isHeir(cuts) || !now.isHeir(takes)) {
            return refuse(NO_SUCH);
        }
        if (what < 0 || what > 3) {
            return refuse(BEYOND);
        }
        if (cuts == takes) {
            return refuse(WRONG);
        }
        long first = search.findFairest(now, cuts);
        long second = now.all & ~first;
        boolean takesSecond = now.worthOf(takes, second) > now.worthOf(takes, first);
        switch (what) {
            case 0: return search.bestCode;
            case 1: return takesSecond ? 1 : 0;
            case 2: return now.worthOf(takes, takesSecond ? second : first);
            default: return now.worthOf(cuts, takesSecond ? first : second);
        }
    }

    public int envies(int heir) {
        if (!now.isHeir(heir)) {
            return refuse(NO_SUCH);
        }
        int own = now.worthOf(heir, now.owned[heir]);
        int envied = 0;
        for (int other = 0; other < now.heirs && other < MOST_HEIRS; other++) {
            if (now.worthOf(heir, now.owned[other]) > own) {
                envied |= 1 << other;
            }
        }
        return envied;
    }

    public int evens(int heir) {
        if (!now.isHeir(heir)) {
            return refuseAs(NO_SUCH, -1000001);
        }
        int shares = now.allShares();
        return shares == 0 ? 0 : -now.surplusOf(heir, now.owned[heir]) / shares;
    }

    public int better() {
        int change = search.findChange(now);
        return change == NONE ? refuse(BEYOND) : change;
    }

    public int mend(int n) {
        if (n < 1 || n > MOST_MENDS) {
            return refuse(WRONG);
        }
        for (int done = 0; done < n; done++) {
            int change = search.findChange(now);
            if (change == NONE) {
                return done;
            }
            Field.give(now.owned, now.only(change / 10), change % 10);
        }
        return n;
    }

    public int fits(int s, int t) {
        int refusal = earlier(noCut(s), noRow(t));
        if (refusal != 0) {
            return refuse(refusal);
        }
        long wrongFirst = now.toldBy(heldRows[t], 0) & ~sideOf(heldCuts[s], 0);
        long wrongSecond = now.toldBy(heldRows[t], 1) & ~sideOf(heldCuts[s], 1);
        return (wrongFirst | wrongSecond) == 0 ? 1 : 0;
    }

    public int old(int t) {
        int refusal = noRow(t);
        if (refusal != 0) {
            return refuse(refusal);
        }
        search.findFitting(now, heldRows[t]);
        return search.fitting;
    }

    public long sure(int t, int side) {
        int refusal = noRow(t);
        if (refusal != 0) {
            return refuse(refusal);
        }
        if (side < 0 || side > 1) {
            return refuse(BEYOND);
        }
        search.findFitting(now, heldRows[t]);
        return side == 0 ? search.sureFirst : search.sureSecond;
    }

    public int judge(int s) {
        int refusal = noRow(s);
        if (refusal != 0) {
            return refuseAs(refusal, refusal - 10);
        }
        for (int heir = 0; heir < now.heirs && heir < MOST_HEIRS; heir++) {
            if (now.worthOf(heir, now.owned[heir]) != heldRows[s].intAt(heir)) {
                return heir;
            }
        }
        return NONE;
    }

    public int act(int s, int act, int x) {
        trace.renew(2, 0);
        if (noCut(s) != 0) {
            return 0;
        }
        switch (act) {
            case 0: return heldCuts[s].partsBody(x);
            case 1: return heldCuts[s].weighsBody(x);
            case 2: return heldCuts[s].hedgesBody(x);
            default: return 0;
        }
    }

    public int trace(int i) {
        return trace.has(i) && i < KEPT_BODIES ? trace.intAt(i) : NONE;
    }

    public int image() {
        kept.become(now);
        imageTaken = true;
        return now.heirs;
    }

    public int restore() {
        if (!imageTaken) {
            return refuse(WRONG);
        }
        now.become(kept);
        return now.heirs;
    }

    public int status(int what) {
        if (what > 10 && what <= 10 + REFUSAL_KINDS) {
            return refusals[what - 10];
        }
        switch (what) {
            case 0: return now.w;
            case 1: return now.h;
            case 2: return now.heirs;
            case 3: case 4: case 5: case 6: return now.placeOf(what - 3);
            case 7: return now.ownedByHeirs();
            case 8: return trace.size;
            default: return NONE;
        }
    }

    private int refuse(int refusal) {
        return refuseAs(refusal, refusal);
    }

    private int refuseAs(int refusal, int answer) {
        if (refusal < 0 && refusal >= -REFUSAL_KINDS) {
            refusals[-refusal]++;
        }
        return answer;
    }

    /** Of two refusals (or 0) the one that comes first in the document's order, -1 ahead of -2. */
    private static int earlier(int one, int other) {
        if (one == 0) {
            return other;
        }
        return other == 0 ? one : Math.max(one, other);
    }

    private static boolean isShelf(int s) {
        return s >= 0 && s < SHELVES;
    }

    private int noRow(int s) {
        if (!isShelf(s)) {
            return NO_SUCH;
        }
        if (heldCuts[s] != null) {
            return OTHER;
        }
        return heldRows[s].isHeld() ? 0 : NOTHING;
    }

    private int noCut(int s) {
        if (!isShelf(s)) {
            return NO_SUCH;
        }
        if (heldRows[s].isHeld()) {
            return OTHER;
        }
        return heldCuts[s] != null ? 0 : NOTHING;
    }

    private static boolean hasCutNumbers(int code) {
        return code / 100 % 10 <= MOST_SIDE && code / 10 % 10 <= MOST_SIDE && code % 10 <= MOST_SIDE;
    }

    private Cut newCut(int s, int code) {
        switch (code / 1000) {
            case 1: return new Straight(s, code, trace);
            case 2: return new Bent(s, code, trace);
            case 3: return new Lane(s, code, trace);
            case 4: return new Along(s, code, trace);
            case 5: return new From(s, code, trace);
            case 6: return new Told(s, code, trace);
            default: return new Cut(s, code, trace);
        }
    }

    private long sideOf(Cut cut, int side) {
        long first = cut.firstIn(now);
        long lane = cut.laneIn(now);
        switch (side) {
            case 0: return first;
            case 1: return now.all & ~first & ~lane;
            case 2: return lane;
            default: return 0;
        }
    }

    private int toldAs(Cut cut, int kind) {
        switch (kind) {
            case 1: return Long.bitCount(sideOf(cut, 1));
            case 2: case 6: return cut.b;
            case 3: return Long.bitCount(sideOf(cut, 2));
            case 4: return cut.a;
            case 5: return cut.a * cut.b;
            default: return Long.bitCount(sideOf(cut, 0));
        }
    }

    private boolean mayStand(int what, int v) {
        switch (what) {
            case 0: return v >= 0 && v <= 3;
            case 1: case 2: return v == NONE || now.isSquare(v);
            case 3: return v >= 0 && v <= MOST_SMALL;
            default: return false;
        }
    }

    /** A row of numbers; the sort NONE says that the shelf holds no row. */
    private static final class Row {
        int sort = NONE;
        int size = 0;
        final long[] elements = new long[MOST_ELEMENTS];

        void renew(int newSort, int newSize) {
            sort = newSort;
            size = Math.max(0, Math.min(newSize, MOST_ELEMENTS));
            for (int i = 0; i < size; i++) {
                elements[i] = 0;
            }
        }

        void drop() {
            sort = NONE;
            size = 0;
        }

        boolean isHeld() {
            return sort != NONE;
        }

        boolean has(int i) {
            return i >= 0 && i < size;
        }

        boolean hasRange(int from, int n) {
            return from >= 0 && n >= 0 && from <= size - n;
        }

        long at(int i) {
            return has(i) ? elements[i] : 0;
        }

        int intAt(int i) {
            return has(i) ? (int) elements[i] : 0;
        }

        void put(int i, long v) {
            if (has(i)) {
                elements[i] = narrowed(v);
            }
        }

        void append(int v) {
            if (size < MOST_ELEMENTS) {
                elements[size] = v;
                size++;
            }
        }

        long narrowed(long v) {
            switch (sort) {
                case 0: return (byte) v;
                case 1: return (short) v;
                case 2: return (int) v;
                default: return v;
            }
        }
    }

    /** The kind that all others stand under. The bodies of the acts note their numbers in the trace. */
    private static class Cut {
        final int code;
        final int shelf;
        final int a;
        final int b;
        final int c;
        final Row trace;

        Cut(int shelf, int code, Row trace) {
            this.code = code;
            this.shelf = shelf;
            this.a = code / 100 % 10;
            this.b = code / 10 % 10;
            this.c = code % 10;
            this.trace = trace;
        }

        boolean isOf(int kind) {
            return kind == 0;
        }

        long firstIn(Field field) {
            return field.below(8 * a + b);
        }

        long laneIn(Field field) {
            return 0;
        }

        int partsBody(int x) {
            trace.append(10);
            return x + shelf;
        }

        int weighsBody(int x) {
            trace.append(11);
            return partsBody(x) * 2;
        }

        int hedgesBody(int x) {
            trace.append(12);
            return weighsBody(x) ^ partsBody(x - a);
        }
    }

    private static class Straight extends Cut {
        Straight(int shelf, int code, Row trace) {
            super(shelf, code, trace);
        }

        boolean isOf(int kind) {
            return kind == 1 || super.isOf(kind);
        }

        long firstIn(Field field) {
            return field.columns(a);
        }

        int partsBody(int x) {
            trace.append(20);
            return super.partsBody(x) + a;
        }
    }

    private static class Bent extends Cut {
        Bent(int shelf, int code, Row trace) {
            super(shelf, code, trace);
        }

        boolean isOf(int kind) {
            return kind == 2 || super.isOf(kind);
        }

        long firstIn(Field field) {
            return field.bent(a, b, c);
        }

        int weighsBody(int x) {
            trace.append(30);
            return super.weighsBody(x) * 3;
        }
    }

    private static final class Lane extends Cut {
        Lane(int shelf, int code, Row trace) {
            super(shelf, code, trace);
        }

        boolean isOf(int kind) {
            return kind == 3 || super.isOf(kind);
        }

        long firstIn(Field field) {
            return field.columns(a);
        }

        long laneIn(Field field) {
            return field.columns(a + 1) & ~field.columns(a);
        }

        int hedgesBody(int x) {
            trace.append(40);
            return super.hedgesBody(x) - shelf;
        }
    }

    private static final class Along extends Straight {
        Along(int shelf, int code, Row trace) {
            super(shelf, code, trace);
        }

        boolean isOf(int kind) {
            return kind == 4 || super.isOf(kind);
        }

        long firstIn(Field field) {
            return field.rowsBelow(a);
        }

        int weighsBody(int x) {
            trace.append(50);
            return super.weighsBody(x + 1);
        }

        int partsBody(int x) {
            trace.append(51);
            return -super.partsBody(x);
        }
    }

    private static final class From extends Straight {
        From(int shelf, int code, Row trace) {
            super(shelf, code, trace);
        }

        boolean isOf(int kind) {
            return kind == 5 || super.isOf(kind);
        }

        long firstIn(Field field) {
            return field.corner(a, b);
        }

        int hedgesBody(int x) {
            trace.append(60);
            return super.hedgesBody(x) ^ 5;
        }
    }

    private static final class Told extends Bent {
        Told(int shelf, int code, Row trace) {
            super(shelf, code, trace);
        }

        boolean isOf(int kind) {
            return kind == 6 || super.isOf(kind);
        }

        long firstIn(Field field) {
            return field.all & ~field.bent(a, b, c);
        }

        int partsBody(int x) {
            trace.append(70);
            return super.partsBody(x) * 2;
        }

        int weighsBody(int x) {
            trace.append(71);
            return super.weighsBody(x - a);
        }
    }

    /** All that an image keeps: the board with soils and places, the heirs, and who owns what. */
    private static final class Field {
        int w = 0;
        int h = 0;
        long all = 0;
        long firstColumn = 0;
        long lastColumn = 0;
        long firstRow = 0;
        long lastRow = 0;
        int road = 0;
        int well = NONE;
        int oak = NONE;
        int small = 1;
        int heirs = 0;
        final long[] soils = new long[SOILS];
        final int[] shares = new int[MOST_HEIRS];
        final int[][] soilWorths = new int[MOST_HEIRS][SOILS];
        final boolean[] isFond = new boolean[MOST_HEIRS];
        /** Sets by owner: the heirs' first, then the lane's, then nobody's. */
        final long[] owned = new long[SLOTS];

        Field() {
            resize(4, 4);
        }

        void resize(int newW, int newH) {
            w = newW;
            h = newH;
            all = lowest(w * h);
            firstColumn = 0;
            for (int r = 0; r < h; r++) {
                firstColumn |= 1L << r * w;
            }
            lastColumn = firstColumn << w - 1;
            firstRow = lowest(w);
            lastRow = firstRow << w * (h - 1);
            well = NONE;
            oak = NONE;
            empty(soils);
            soils[0] = all;
            empty(owned);
            owned[NOBODY_SLOT] = all;
        }

        void become(Field other) {
            w = other.w;
            h = other.h;
            all = other.all;
            firstColumn = other.firstColumn;
            lastColumn = other.lastColumn;
            firstRow = other.firstRow;
            lastRow = other.lastRow;
            road = other.road;
            well = other.well;
            oak = other.oak;
            small = other.small;
            heirs = other.heirs;
            for (int v = 0; v < SOILS; v++) {
                soils[v] = other.soils[v];
            }
            for (int slot = 0; slot < SLOTS; slot++) {
                owned[slot] = other.owned[slot];
            }
            for (int heir = 0; heir < MOST_HEIRS; heir++) {
                shares[heir] = other.shares[heir];
                isFond[heir] = other.isFond[heir];
                for (int v = 0; v < SOILS; v++) {
                    soilWorths[heir][v] = other.soilWorths[heir][v];
                }
            }
        }

        /** A set goes over to one of the sets that part the board. */
        static void give(long[] sets, long set, int slot) {
            if (slot < 0 || slot >= sets.length) {
                return;
            }
            for (int other = 0; other < sets.length; other++) {
                sets[other] &= ~set;
            }
            sets[slot] |= set;
        }

        static void empty(long[] sets) {
            for (int slot = 0; slot < sets.length; slot++) {
                sets[slot] = 0;
            }
        }

        int squares() {
            return w * h;
        }

        boolean isSquare(int square) {
            return square >= 0 && square < w * h;
        }

        boolean isHeir(int heir) {
            return heir >= 0 && heir < heirs && heir < MOST_HEIRS;
        }

        boolean hasAll(long set) {
            return (set & ~all) == 0;
        }

        long only(int square) {
            return isSquare(square) ? 1L << square : 0;
        }

        /** A shift by 64 would be one by 0 in Java: whole boards go apart. */
        static long lowest(int n) {
            if (n <= 0) {
                return 0;
            }
            return n >= MOST_SQUARES ? -1L : (1L << n) - 1;
        }

        long below(int square) {
            return lowest(square) & all;
        }

        long rowsBelow(int r) {
            return lowest(r * w) & all;
        }

        long columns(int n) {
            long set = 0;
            for (int column = 0; column < w && column < n; column++) {
                set |= firstColumn << column;
            }
            return set;
        }

        long corner(int columns, int rows) {
            return columns(columns) & rowsBelow(rows);
        }

        long bent(int a, int b, int c) {
            long upper = rowsBelow(b);
            return columns(a) & upper | columns(c) & ~upper;
        }

        int soilAt(int square) {
            for (int v = 0; v < SOILS; v++) {
                if ((soils[v] & only(square)) != 0) {
                    return v;
                }
            }
            return 0;
        }

        void laySoil(long set, int v) {
            give(soils, set, v);
        }

        int placeOf(int what) {
            switch (what) {
                case 0: return road;
                case 1: return well;
                case 2: return oak;
                default: return small;
            }
        }

        void setPlace(int what, int v) {
            switch (what) {
                case 0: road = v; break;
                case 1: well = v; break;
                case 2: oak = v; break;
                default: small = v; break;
            }
        }

        int addHeir(int share) {
            if (heirs < 0 || heirs >= MOST_HEIRS) {
                return NONE;
            }
            shares[heirs] = share;
            isFond[heirs] = false;
            for (int v = 0; v < SOILS; v++) {
                soilWorths[heirs][v] = 10;
            }
            heirs++;
            return heirs - 1;
        }

        int worthOf(int heir, long set) {
            if (!isHeir(heir)) {
                return 0;
            }
            int sum = 0;
            for (int v = 0; v < SOILS; v++) {
                sum += soilWorths[heir][v] * Long.bitCount(set & soils[v]);
            }
            boolean hasOak = oak != NONE && (set >>> oak & 1) != 0;
            return hasOak && isFond[heir] ? sum + OAK_WORTH : sum;
        }

        int allShares() {
            int sum = 0;
            for (int heir = 0; heir < heirs && heir < MOST_HEIRS; heir++) {
                sum += shares[heir];
            }
            return sum;
        }

        /** How much more than his due a set is for an heir, times all shares; below 0 he lacks. */
        int surplusOf(int heir, long set) {
            if (!isHeir(heir)) {
                return 0;
            }
            return worthOf(heir, set) * allShares() - shares[heir] * worthOf(heir, all);
        }

        int slotOf(int owner) {
            if (owner == THE_LANE) {
                return LANE_SLOT;
            }
            if (owner == NONE) {
                return NOBODY_SLOT;
            }
            return isHeir(owner) ? owner : NONE;
        }

        int ownerAt(int square) {
            long it = only(square);
            if ((owned[LANE_SLOT] & it) != 0) {
                return THE_LANE;
            }
            for (int heir = 0; heir < MOST_HEIRS; heir++) {
                if ((owned[heir] & it) != 0) {
                    return heir;
                }
            }
            return NONE;
        }

        int ownedByHeirs() {
            return Long.bitCount(all & ~owned[LANE_SLOT] & ~owned[NOBODY_SLOT]);
        }

        /** Answers how many squares come to another owner. */
        int takeOwners(long[] next) {
            int changed = 0;
            for (int slot = 0; slot < SLOTS && slot < next.length; slot++) {
                changed += Long.bitCount(next[slot] & ~owned[slot]);
                owned[slot] = next[slot];
            }
            return changed;
        }

        long withBeside(long set) {
            long beside = set << w | set >>> w | (set & ~lastColumn) << 1 | (set & ~firstColumn) >>> 1;
            return (set | beside) & all;
        }

        /** All of a set that hangs together with a part of it. */
        long grown(long part, long set) {
            long grown = part & set;
            for (int step = 0; step < MOST_SQUARES; step++) {
                long next = withBeside(grown) & set;
                if (next == grown) {
                    return grown;
                }
                grown = next;
            }
            return grown;
        }

        int piecesOf(long set) {
            long rest = set & all;
            int pieces = 0;
            while (rest != 0 && pieces < MOST_SQUARES) {
                rest &= ~grown(rest & -rest, rest);
                pieces++;
            }
            return pieces;
        }

        int hedgeOf(long[] sets) {
            int alike = 0;
            for (int slot = 0; slot < sets.length; slot++) {
                long set = sets[slot];
                alike += Long.bitCount(set & ~lastColumn & set >>> 1) + Long.bitCount(set & set >>> w);
            }
            return h * (w - 1) + w * (h - 1) - alike;
        }

        /** 100 times the fault that sets by owner have and whose it is; 0 if there is none. */
        int verdictOn(long[] sets) {
            if (sets.length < SLOTS) {
                return 0;
            }
            long nobodys = sets[NOBODY_SLOT];
            if (nobodys != 0) {
                return 100 + Long.bitCount((nobodys & -nobodys) - 1);
            }
            for (int fault = 2; fault <= 5; fault++) {
                for (int heir = 0; heir < heirs && heir < MOST_HEIRS; heir++) {
                    if (hasFault(fault, heir, sets[heir], sets[LANE_SLOT])) {
                        return 100 * fault + heir;
                    }
                }
            }
            return 0;
        }

        boolean hasFault(int fault, int heir, long set, long lane) {
            switch (fault) {
                case 2: return Long.bitCount(set) < small || grown(set & -set, set) != set;
                case 3: return (set & reachOfRoad(lane)) == 0;
                case 4: return wellMatters(lane) && (set & withBeside(only(well))) == 0;
                default: return surplusOf(heir, set) < 0;
            }
        }

        /** Without a lane an heir's faults hang on his own set alone. */
        boolean isContent(int heir, long set) {
            for (int fault = 2; fault <= 5; fault++) {
                if (hasFault(fault, heir, set, 0)) {
                    return false;
                }
            }
            return true;
        }

        /** The squares of which an heir must have one to come to the road. */
        long reachOfRoad(long lane) {
            long side = roadSide();
            return side | withBeside(grown(lane & side, lane));
        }

        long roadSide() {
            switch (road) {
                case 0: return firstRow;
                case 1: return lastColumn;
                case 2: return lastRow;
                default: return firstColumn;
            }
        }

        boolean wellMatters(long lane) {
            return isSquare(well) && (lane & only(well)) == 0;
        }

        /** The squares of which a row tells a thing. */
        long toldBy(Row row, int thing) {
            long told = 0;
            for (int square = 0; square < squares() && square < row.size; square++) {
                if (row.intAt(square) == thing) {
                    told |= only(square);
                }
            }
            return told;
        }
    }

    /**
     * Reads a text item by item into a field; the first place that can't stand ends it, and what came
     * into the field is then worth nothing. Beyond its end a text answers 0, which is no letter.
     */
    private static final class Reader {
        private static final int WORDS = 7;

        int fault = NONE;
        private final Row text;
        private final Field field;
        private int at = 0;

        Reader(Row text, Field field) {
            this.text = text;
            this.field = field;
        }

        int readItems() {
            int items = 0;
            while (items <= MOST_ELEMENTS && readItem()) {
                items++;
                if (at >= text.size || !passes(';')) {
                    return items;
                }
            }
            return items;
        }

        boolean fails(int place) {
            fault = place;
            return false;
        }

        boolean passes(char letter) {
            if (text.intAt(at) != letter) {
                return fails(at);
            }
            at++;
            return true;
        }

        boolean readItem() {
            switch (readWord()) {
                case 0: return readSize();
                case 1: return readSoil();
                case 2: return readPlace(0, 0, 3);
                case 3: return readPlace(1, 0, field.squares() - 1);
                case 4: return readPlace(2, 0, field.squares() - 1);
                case 5: return readPlace(3, 0, MOST_SMALL);
                case 6: return readHeir();
                default: return false;
            }
        }

        static String wordOf(int word) {
            switch (word) {
                case 0: return "size";
                case 1: return "soil";
                case 2: return "road";
                case 3: return "well";
                case 4: return "oak";
                case 5: return "small";
                default: return "heir";
            }
        }

        /** A letter can stand as long as some word goes on so; where all heirs stand, "heir" does not. */
        int readWord() {
            int words = field.heirs < MOST_HEIRS ? WORDS : WORDS - 1;
            int farthest = 0;
            for (int word = 0; word < words; word++) {
                String letters = wordOf(word);
                int alike = lettersAlike(letters);
                if (alike == letters.length()) {
                    at += alike;
                    return word;
                }
                farthest = Math.max(farthest, alike);
            }
            fails(at + farthest);
            return NONE;
        }

        int lettersAlike(String letters) {
            for (int i = 0; i < letters.length(); i++) {
                if (text.intAt(at + i) != letters.charAt(i)) {
                    return i;
                }
            }
            return letters.length();
        }

        /** A blank and a number; NONE if it can't stand. */
        int readNumber(int least, int most) {
            if (!passes(' ')) {
                return NONE;
            }
            int start = at;
            int number = digitAt(at);
            if (number == NONE) {
                fails(at);
                return NONE;
            }
            at++;
            int second = digitAt(at);
            if (second != NONE) {
                number = 10 * number + second;
                at++;
            }
            if (number < least || number > most) {
                fails(start);
                return NONE;
            }
            return number;
        }

        int digitAt(int i) {
            int letter = text.intAt(i);
            return letter >= '0' && letter <= '9' ? letter - '0' : NONE;
        }

        boolean readSize() {
            int w = readNumber(LEAST_SIDE, MOST_SIDE);
            int h = w == NONE ? NONE : readNumber(LEAST_SIDE, MOST_SIDE);
            if (h == NONE) {
                return false;
            }
            field.resize(w, h);
            return true;
        }

        boolean readSoil() {
            int v = readNumber(0, SOILS - 1);
            int from = v == NONE ? NONE : readNumber(0, field.squares() - 1);
            int to = from == NONE ? NONE : readNumber(from, field.squares() - 1);
            if (to == NONE) {
                return false;
            }
            field.laySoil(field.below(to + 1) & ~field.below(from), v);
            return true;
        }

        boolean readPlace(int what, int least, int most) {
            int v = readNumber(least, most);
            if (v == NONE) {
                return false;
            }
            field.setPlace(what, v);
            return true;
        }

        boolean readHeir() {
            int share = readNumber(1, MOST_SHARE);
            int heir = share == NONE ? NONE : field.addHeir(share);
            if (!field.isHeir(heir)) {
                return false;
            }
            for (int v = 0; v < SOILS; v++) {
                int worth = readNumber(0, MOST_WORTH);
                if (worth == NONE) {
                    return false;
                }
                field.soilWorths[heir][v] = worth;
            }
            return true;
        }
    }

    /** Tries cuts in the order of their codes and keeps the first of the best, so that ties go right. */
    private static final class Search {
        /** More than any field has. */
        private static final int NO_HEDGE = 1000;
        private static final int NO_WORTH = 1000000;

        int bestCode = NONE;
        int fitting = 0;
        long sureFirst = 0;
        long sureSecond = 0;
        private int bestOther = 0;
        private int bestHedge = NO_HEDGE;
        private int count = 0;
        private final int[] codes = new int[MOST_CUTS];
        private final long[] firsts = new long[MOST_CUTS];
        private final long[] trial = new long[SLOTS];

        int best(int what) {
            switch (what) {
                case 0: return bestCode;
                case 1: return bestOther;
                default: return bestHedge;
            }
        }

        void addCut(int code, long first) {
            if (count < MOST_CUTS) {
                codes[count] = code;
                firsts[count] = first;
                count++;
            }
        }

        void listCuts(Field field, boolean withBent, boolean withFrom) {
            count = 0;
            for (int a = 1; a < field.w; a++) {
                addCut(STRAIGHT_CODE + 100 * a, field.columns(a));
            }
            if (withBent) {
                addBent(field);
            }
            for (int a = 1; a < field.h; a++) {
                addCut(ALONG_CODE + 100 * a, field.rowsBelow(a));
            }
            if (withFrom) {
                addFrom(field);
            }
        }

        void addBent(Field field) {
            for (int a = 0; a <= field.w; a++) {
                for (int b = 1; b < field.h; b++) {
                    for (int c = 0; c <= field.w; c++) {
                        addCut(BENT_CODE + 100 * a + 10 * b + c, field.bent(a, b, c));
                    }
                }
            }
        }

        void addFrom(Field field) {
            for (int a = 1; a <= field.w; a++) {
                for (int b = 1; b <= field.h; b++) {
                    if (a < field.w || b < field.h) {
                        addCut(FROM_CODE + 100 * a + 10 * b, field.corner(a, b));
                    }
                }
            }
        }

        void forget(int hedge) {
            bestCode = NONE;
            bestOther = 0;
            bestHedge = hedge;
        }

        void tryTrial(Field field, int code, int other) {
            int hedge = field.hedgeOf(trial);
            if (hedge < bestHedge && field.verdictOn(trial) == 0) {
                bestCode = code;
                bestOther = other;
                bestHedge = hedge;
            }
        }

        boolean findTwo(Field field) {
            forget(NO_HEDGE);
            if (field.heirs != 2) {
                return false;
            }
            listCuts(field, true, false);
            Field.empty(trial);
            for (int i = 0; i < count; i++) {
                for (int way = 0; way < 2; way++) {
                    trial[way] = firsts[i];
                    trial[1 - way] = field.all & ~firsts[i];
                    tryTrial(field, codes[i], way);
                }
            }
            return bestCode != NONE;
        }

        boolean findThree(Field field) {
            forget(NO_HEDGE);
            if (field.heirs != 3) {
                return false;
            }
            listCuts(field, false, true);
            Field.empty(trial);
            for (int one = 0; one < count; one++) {
                // no other cut helps where the first heir has a fault already
                if (!field.isContent(0, firsts[one])) {
                    continue;
                }
                for (int other = 0; other < count; other++) {
                    trial[0] = firsts[one];
                    trial[1] = firsts[other] & ~firsts[one];
                    trial[2] = field.all & ~firsts[one] & ~firsts[other];
                    tryTrial(field, codes[one], codes[other]);
                }
            }
            return bestCode != NONE;
        }

        /** The first side of the cut by which both sides are most alike for an heir. */
        long findFairest(Field field, int heir) {
            forget(NO_HEDGE);
            listCuts(field, true, false);
            long fairest = 0;
            int least = NO_WORTH;
            for (int i = 0; i < count; i++) {
                long second = field.all & ~firsts[i];
                int apart = Math.abs(field.worthOf(heir, firsts[i]) - field.worthOf(heir, second));
                if (apart < least) {
                    least = apart;
                    bestCode = codes[i];
                    fairest = firsts[i];
                }
            }
            return fairest;
        }

        /** 10 times the square and the heir who should have it for less hedge, or NONE. */
        int findChange(Field field) {
            forget(field.hedgeOf(field.owned));
            for (int square = 0; square < field.squares(); square++) {
                for (int heir = 0; heir < field.heirs && heir < MOST_HEIRS; heir++) {
                    if (mayChange(field, square, heir)) {
                        startFrom(field.owned);
                        Field.give(trial, field.only(square), heir);
                        tryTrial(field, 10 * square + heir, 0);
                    }
                }
            }
            return bestCode;
        }

        static boolean mayChange(Field field, int square, int heir) {
            int owner = field.ownerAt(square);
            long beside = field.withBeside(field.only(square));
            return field.isHeir(owner) && owner != heir && (field.owned[heir] & beside) != 0;
        }

        void startFrom(long[] sets) {
            for (int slot = 0; slot < SLOTS && slot < sets.length; slot++) {
                trial[slot] = sets[slot];
            }
        }

        void findFitting(Field field, Row row) {
            long toldFirst = field.toldBy(row, 0);
            long toldSecond = field.toldBy(row, 1);
            fitting = 0;
            sureFirst = field.all;
            sureSecond = field.all;
            listCuts(field, true, true);
            for (int i = 0; i < count; i++) {
                if ((toldFirst & ~firsts[i]) == 0 && (toldSecond & firsts[i]) == 0) {
                    fitting++;
                    sureFirst &= firsts[i];
                    sureSecond &= ~firsts[i];
                }
            }
            if (fitting == 0) {
                sureFirst = 0;
                sureSecond = 0;
            }
        }
    }
}
