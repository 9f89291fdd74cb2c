/** A FIELD read from a text, and its FAULT: the document's sentences one by one, each at its edges. */
public final class TextTest {
    private static final String HEIR = "heir 1 1 1 1 1 1 1";

    private static String sentence = "";

    private static void due(String call, long got, long want) {
        Due.is("'" + sentence + "': " + call, got, want);
    }

    private static void reads(BrothersField x, String text, int items) {
        Made.text(x, 0, text.length() % 4, text);
        due("field(" + text + ")", x.field(0), items);
        due("fault of " + text, x.fault(), -1);
    }

    private static void faultAt(BrothersField x, String text, int place) {
        Made.text(x, 0, text.length() % 4, text);
        due("field(" + text + ")", x.field(0), -6);
        due("fault of " + text, x.fault(), place);
    }

    private static void reads(String text, int items) {
        reads(new BrothersField(), text, items);
    }

    private static void faultAt(String text, int place) {
        faultAt(new BrothersField(), text, place);
    }

    private static String times(int n, String text) {
        return text.repeat(n);
    }

    private static void items() {
        sentence = "ITEM, then any number of times ; and ITEM";
        reads("road 1", 1);
        reads("road 1;road 2", 2);
        reads("road 1;well 2;oak 3;small 4;soil 5 6 7;" + HEIR, 6);
        String hundred = times(11, "road 1;") + times(2, "road 01;") + "road 02";
        due("elements", hundred.length(), 100);
        reads(hundred, 14);
        BrothersField x = new BrothersField();
        reads(x, hundred, 14);
        due("the last of a full row stands", x.status(3), 2);
        String open = times(12, "road 1;") + times(2, "road 01;");
        due("elements", open.length(), 100);
        faultAt(open, 100);
        faultAt("", 0);
        faultAt(";", 0);
        faultAt(";road 1", 0);
        faultAt("road 1;", 7);
        faultAt("road 1;;", 7);
        faultAt("road 1;;road 1", 7);
        faultAt("road 1,road 1", 6);
        faultAt("road 1road 1", 6);
    }

    private static BrothersField full() {
        BrothersField x = Made.board(4, 4, 3, 5);
        x.fond(1, true);
        x.soil(0, 5);
        x.soil(15, 4);
        x.place(0, 2);
        x.place(1, 15);
        x.place(2, 0);
        x.place(3, 20);
        x.own(0x00FF, 0);
        x.own(0x0F00, 1);
        x.own(0xF000, 9);
        return x;
    }

    private static void size() {
        sentence = "size W H (all SQUARES of SOIL 0, OWNED by nobody, no WELL, no OAK then)";
        BrothersField x = full();
        reads(x, "size 4 4", 1);
        due("soil", x.soil(0, 0), 0);
        due("soil", x.soil(15, 0), 0);
        due("nobody's", x.piece(-1), 0xFFFF);
        due("well", x.status(4), -1);
        due("oak", x.status(5), -1);
        due("the road stays", x.status(3), 2);
        due("small stays", x.status(6), 20);
        due("heirs stay", x.status(2), 2);
        due("fond stays", x.heirOf(1, 1), 1);
        x = new BrothersField();
        reads(x, "well 3;oak 2;soil 5 0 3;size 4 4", 4);
        due("of the same text: well", x.status(4), -1);
        due("oak", x.status(5), -1);
        due("soil", x.soil(0, 0), 0);
        reads(x, "size 4 4;well 3;oak 2;soil 5 0 3", 4);
        due("well", x.status(4), 3);
        due("oak", x.status(5), 2);
        due("soil", x.soil(0, 0), 5);
        for (int w = 2; w <= 8; w++) {
            for (int h = 2; h <= 8; h++) {
                x = new BrothersField();
                reads(x, "size " + w + " " + h, 1);
                due("w", x.status(0), w);
                due("h", x.status(1), h);
            }
        }
        reads("size 02 08", 1);
        for (String wrong : new String[] {"0", "1", "9", "10", "00", "99"}) {
            faultAt("size " + wrong + " 2", 5);
            faultAt("size 2 " + wrong, 7);
        }
    }

    private static void soil() {
        sentence = "soil N A B (SQUARES A to B, no less, have SOIL N)";
        BrothersField x = new BrothersField();
        reads(x, "soil 5 3 3", 1);
        due("one square", x.soil(3, 0), 5);
        due("ahead of it", x.soil(2, 0), 0);
        due("behind it", x.soil(4, 0), 0);
        reads(x, "soil 4 0 15", 1);
        reads(x, "soil 3 1 14", 1);
        due("the first", x.soil(0, 0), 4);
        due("the second", x.soil(1, 0), 3);
        due("the last but one", x.soil(14, 0), 3);
        due("the last", x.soil(15, 0), 4);
        reads("soil 0 0 0", 1);
        faultAt("soil 6 0 0", 5);
        faultAt("soil 5 16 16", 7);
        faultAt("soil 5 4 3", 9);
        faultAt("soil 5 0 16", 9);
        faultAt("soil 5 15 14", 10);
        x = Made.board(8, 8);
        reads(x, "soil 2 0 63;soil 1 63 63", 2);
        due("the last of all", x.soil(63, 0), 1);
        due("the last but one", x.soil(62, 0), 2);
        faultAt(x, "soil 1 64 64", 7);
        faultAt(x, "soil 1 0 64", 9);
        faultAt(x, "size 2 2;soil 1 0 4", 18);
        reads(x, "size 2 2;soil 1 0 3", 2);
    }

    private static void places() {
        sentence = "road N; well N; oak N; small N";
        BrothersField x = new BrothersField();
        String[] words = {"road ", "well ", "oak ", "small "};
        int[] most = {3, 15, 15, 20};
        for (int what = 0; what < 4; what++) {
            for (int v : new int[] {0, 1, most[what]}) {
                reads(x, words[what] + v, 1);
                due("status", x.status(3 + what), v);
            }
            faultAt(x, words[what] + (most[what] + 1), words[what].length());
            faultAt(x, words[what] + "99", words[what].length());
            due("status stays", x.status(3 + what), most[what]);
        }
        reads("size 8 8;well 63;oak 63", 3);
        faultAt("size 8 8;well 64", 14);
        faultAt("size 8 8;oak 64", 13);
        reads("size 2 2;well 3;oak 3", 3);
        faultAt("size 2 2;well 4", 14);
        faultAt("size 2 2;oak 4", 13);
        reads("well 15;oak 15;size 2 2", 3);
    }

    private static void heirs() {
        sentence = "heir P U V W X Y Z (SHARE, WORTHS of SOILS 0 to 5)";
        BrothersField x = new BrothersField();
        reads(x, "heir 1 0 0 0 0 0 0;heir 9 99 99 99 99 99 99;heir 05 6 5 4 3 2 01", 3);
        for (int v = 0; v < 6; v++) {
            due("least worths", x.heirOf(0, 10 + v), 0);
            due("most worths", x.heirOf(1, 10 + v), 99);
            due("worths in their order", x.heirOf(2, 10 + v), 6 - v);
        }
        due("least share", x.heirOf(0, 0), 1);
        due("most share", x.heirOf(1, 0), 9);
        due("share", x.heirOf(2, 0), 5);
        due("not fond", x.heirOf(2, 1), 0);
        due("without squares", x.heirOf(2, 2), 0);
        faultAt(x, "heir 0 1 1 1 1 1 1", 5);
        faultAt(x, "heir 00 1 1 1 1 1 1", 5);
        faultAt(x, "heir 10 1 1 1 1 1 1", 5);
        StringBuilder worths = new StringBuilder("heir 1");
        for (int v = 0; v < 6; v++) {
            faultAt(x, worths.toString(), worths.length());
            faultAt(x, worths + " 100" + times(5 - v, " 1"), worths.length() + 3);
            worths.append(" 1");
        }
        faultAt(x, worths + " 1", worths.length());
        due("heirs", x.status(2), 3);
    }

    private static void blanksAndNumbers() {
        sentence = "One blank between words and NUMBERS (1 or 2 digits)";
        faultAt("road1", 4);
        faultAt("road  1", 5);
        faultAt("road\t1", 4);
        faultAt("size 4  4", 7);
        faultAt("size 4,4", 6);
        faultAt(" road 1", 0);
        faultAt("road 1 ", 6);
        faultAt("road 1 ;road 1", 6);
        faultAt("road 1; road 1", 7);
        faultAt("road ;", 5);
        faultAt("road x", 5);
        faultAt("road -1", 5);
        faultAt("road +1", 5);
        faultAt("road /", 5);
        faultAt("road :", 5);
        reads("road 1", 1);
        reads("road 01", 1);
        reads("road 00", 1);
        faultAt("road 001", 7);
        faultAt("road 000", 7);
        faultAt("small 020", 8);
        faultAt("small 200", 8);
        faultAt("road 1x", 6);
        faultAt("road 1/", 6);
        faultAt("road 1:", 6);
        reads("well 09", 1);
        reads("well 10", 1);
        BrothersField x = new BrothersField();
        reads(x, "well 08;small 19", 2);
        due("08 is 8", x.status(4), 8);
        due("19 is 19", x.status(6), 19);
    }

    private static void toldOver() {
        sentence = "All is told over what there is, or nothing";
        BrothersField x = full();
        reads(x, "small 3", 1);
        int[] status = {4, 4, 2, 2, 15, 0, 3, 12};
        for (int i = 0; i < status.length; i++) {
            due("status(" + i + ")", x.status(i), status[i]);
        }
        due("soil", x.soil(0, 5), 5);
        due("soil", x.soil(15, 4), 4);
        due("owners", x.piece(0), 0x00FF);
        due("owners", x.piece(9), 0xF000);
        reads(x, "heir 1 1 1 1 1 1 1", 1);
        due("one more heir", x.status(2), 3);
        due("the first of them", x.heirOf(0, 0), 3);
        String[] ends = {";", ";x", ";road 4", ";road", ";small 21", ";heir 1 1 1 1 1 1", ";well 4", " "};
        for (String end : ends) {
            x = full();
            Made.text(x, 0, 0, "road 1;small 2;oak 2;well 3;soil 1 0 15;heir 1 1 1 1 1 1 1;size 2 2" + end);
            due("field", x.field(0), -6);
            status[6] = 20;
            for (int i = 0; i < status.length; i++) {
                due("nothing is told by .." + end + ": status(" + i + ")", x.status(i), status[i]);
            }
            due("soil", x.soil(0, 5), 5);
            due("soil", x.soil(1, 0), 0);
            due("owners", x.piece(0), 0x00FF);
            due("owners", x.piece(1), 0x0F00);
            due("owners", x.piece(9), 0xF000);
            due("fond", x.heirOf(1, 1), 1);
        }
    }

    private static void sixthHeir() {
        sentence = "a sixth heir can't stand: its word";
        reads(times(4, HEIR + ";") + HEIR, 5);
        faultAt(times(5, HEIR + ";") + "heir ", 95);
        faultAt(times(5, HEIR + ";") + "h", 95);
        reads(times(5, HEIR + ";") + "oak 1", 6);
        BrothersField x = Made.board(4, 4, 1, 1, 1, 1);
        faultAt(x, "road 1;" + HEIR + ";" + HEIR, 26);
        due("no heir of these", x.status(2), 4);
        reads(x, "road 1;" + HEIR, 2);
        due("five heirs", x.status(2), 5);
        faultAt(x, HEIR, 0);
        faultAt(x, "road 1;" + HEIR, 7);
        faultAt(x, "size 2 2;" + HEIR, 9);
        reads(x, "size 2 2;oak 3", 2);
        reads(x, "soil 1 2 3;road 2;well 1;small 4", 4);
        due("heirs", x.status(2), 5);
        due("small", x.status(6), 4);
    }

    /** Cut short anywhere but at the end of an item, a text ends too early. */
    private static void endsTooEarly() {
        sentence = "the number of elements, if it ends too early";
        String text = "size 8 2;soil 4 1 15;road 3;well 9;oak 12;small 20;heir 9 11 22 33 44 55 66";
        int ends = 0;
        for (int n = 0; n <= text.length(); n++) {
            String short_ = text.substring(0, n);
            String[] items = short_.split(";", -1);
            String last = items[items.length - 1];
            boolean stands = last.matches("size \\d+ \\d+|soil \\d+ \\d+ \\d+|(road|well|oak|small) \\d+|heir( \\d+){7}");
            if (stands) {
                reads(short_, items.length);
                ends++;
            } else {
                faultAt(short_, n);
            }
        }
        due("texts that don't end too early", ends, 11);
    }

    /** The signs stand in no text at all, so each is the fault wherever it is put. */
    private static void wrongLetters() {
        sentence = "the first place at which an element can't stand as such texts go on";
        String text = "size 8 2;soil 4 1 15;road 3;well 9;oak 12;small 20;heir 9 11 22 33 44 55 66";
        for (int at = 0; at < text.length(); at++) {
            faultAt(text.substring(0, at) + "!" + text.substring(at + 1), at);
            faultAt(text.substring(0, at) + "S" + text.substring(at), at);
        }
        String[] words = {"size", "soil", "road", "well", "oak", "small", "heir"};
        for (String word : words) {
            for (int at = 1; at < word.length(); at++) {
                faultAt(word.substring(0, at) + "?", at);
                faultAt(word.substring(0, at) + " 1", at);
            }
            faultAt(word + "s 1", word.length());
        }
        faultAt("sozl 1", 2);
        faultAt("smil 1", 2);
        faultAt("siil 1", 2);
        faultAt("soze 1", 2);
        faultAt("s", 1);
        faultAt("z", 0);
    }

    private static void firstOfFaults() {
        sentence = "The FAULT: the first place";
        faultAt("x;y", 0);
        faultAt("road ;road 9", 5);
        faultAt("road;road 9", 4);
        faultAt("road 9;road 9", 5);
        faultAt("road 1 ;road 9", 6);
        faultAt("roads 1;x", 4);
        faultAt("soil 6 99 98", 5);
        faultAt("soil 0 99 98", 7);
        faultAt("soil 0 ;well 99", 7);
        faultAt("soil 1 2;x", 8);
        faultAt("soil 1 2 ;x", 9);
        faultAt("size 9 9", 5);
        faultAt("size 1;well 99", 5);
        faultAt("size 2;well 99", 6);
        faultAt("heir 0 x", 5);
        faultAt("heir 1 x 1 1 1 1 1;x", 7);
        faultAt("heir 1 1;road 9", 8);
        faultAt("heir 1 1 1 1 1 1 ;road 9", 17);
        faultAt("oak 1;x;road 9", 6);
        faultAt("road 1;;;", 7);
    }

    private static void wrongNumbers() {
        sentence = "of a NUMBER that may not be the place of its first digit";
        faultAt("road 4", 5);
        faultAt("road 30", 5);
        faultAt("road 4;road 1", 5);
        faultAt("road 12x", 5);
        faultAt("road 123", 5);
        faultAt("well 16;oak 99", 5);
        faultAt("small 21 ", 6);
        faultAt("soil 2 9 08", 9);
        faultAt("soil 12 0 0", 5);
        faultAt("heir 10", 5);
        faultAt("road 1;road 44", 12);
    }

    private static void latestFault() {
        sentence = "The FAULT of the latest field() that came to a ROW; NONE: there was none, or none yet";
        BrothersField x = new BrothersField();
        due("none yet", x.fault(), -1);
        x.cut(1, 1100);
        due("no shelf", x.field(8), -1);
        due("no shelf", x.field(-1), -1);
        due("a cut", x.field(1), -2);
        due("nothing", x.field(2), -3);
        due("still none yet", x.fault(), -1);
        faultAt(x, "road 5", 5);
        due("no shelf", x.field(8), -1);
        due("fault", x.fault(), 5);
        due("a cut", x.field(1), -2);
        due("fault", x.fault(), 5);
        due("nothing", x.field(2), -3);
        due("fault", x.fault(), 5);
        faultAt(x, "", 0);
        reads(x, "road 3", 1);
        due("a cut", x.field(1), -2);
        due("fault", x.fault(), -1);
    }

    private static void letters() {
        sentence = "As ints: of longs the lowest 32 bits";
        BrothersField x = new BrothersField();
        Made.text(x, 0, 3, "road 2");
        for (int i = 0; i < 6; i++) {
            x.set(0, i, "road 2".charAt(i) + ((long) (i - 3) << 32));
        }
        due("field", x.field(0), 1);
        due("road", x.status(3), 2);
        x.set(0, 3, 'd' + (1L << 31));
        due("field", x.field(0), -6);
        due("fault", x.fault(), 3);
        sentence = "what is put in keeps its lowest bits";
        for (int sort = 0; sort < 3; sort++) {
            Made.text(x, 0, sort, "road 1");
            x.set(0, 5, '3' + 256L);
            due("field, sort " + sort, x.field(0), sort == 0 ? 1 : -6);
            x.set(0, 5, '3' + 65536L);
            due("field, sort " + sort, x.field(0), sort < 2 ? 1 : -6);
            x.set(0, 5, '3' + (1L << 32));
            due("field, sort " + sort, x.field(0), 1);
        }
    }

    public static void main(String[] args) {
        items();
        size();
        soil();
        places();
        heirs();
        blanksAndNumbers();
        toldOver();
        sixthHeir();
        endsTooEarly();
        wrongLetters();
        firstOfFaults();
        wrongNumbers();
        latestFault();
        letters();
        Due.end();
    }
}
