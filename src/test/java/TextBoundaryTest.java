/** The boundaries of what a text may tell and how it is read: section 1 of the document, promises 1 to 6. */
public final class TextBoundaryTest {
    private static final int BAD = WoolBridge.BAD;
    private static final int STATE = WoolBridge.STATE;
    private static final int FULL = WoolBridge.FULL;
    private static final int NONE = WoolBridge.NONE;
    private static final String SIX = "p1 1;p2 2;p3 3;p4 4;p5 5;p6 6;";

    public static void main(String[] args) {
        newObject();
        gap();
        slack();
        people();
        heavyAndThick();
        rows();
        rowsOfAnItem();
        personToldAhead();
        bytesOfTheText();
        blanks();
        endedBySemicolon();
        onceEach();
        letters();
        figures();
        lettersThatBeginNoItem();
        firstOfSeveralFaults();
        aboveNinetyNine();
        zeroAhead();
        endsTooEarly();
        type();
        clear();
        gorge();
        readAnew();
        person();
        row();
        Check.end();
    }

    private static Run read(String sentence, String text, int items) {
        return Run.of(sentence).type(text).due(items, "gorge").due(0, "count", 5);
    }

    private static void fault(String sentence, String text, int place) {
        Run run = Run.lived(sentence).call("clear").type(text);
        run.same(-10 - place, "gorge").due(-10 - place, "gorge").due(text.length(), "count", 5);
    }

    private static void newObject() {
        String sentence = "As told; nobody, no ROWS.";
        Run.of(sentence).dues("count", 0, 6, 6, 0, 0, 0);
        Run.of(sentence).dues("now", 0, 0, 0, 0, 9, 0, NONE, 0, NONE).due(0, "trace");
        Run run = Run.of(sentence);
        run.same(BAD, "person", 0, 0).same(BAD, "row", 0, 0).same(BAD, "crosses", 0).same(STATE, "turnsBack");
        run.same(BAD, "drops", 0).same(BAD, "draws", 0).same(STATE, "rains", 0).same(STATE, "undo");
        run.same(BAD, "order", -1, 0).same(NONE, "lastOne").same(BAD, "crossings", 0).same(BAD, "over", 0);
        run.same(BAD, "mend", 0, 0).same(BAD, "odds", 0, 0, 0, 0).same(0, "drew", 0).same(NONE, "drew", 1);
        run.same(81, "night", 0).same(11, "night", 1).same(WoolBridge.NO, "mark", 0, 0);
        run.same(STATE, "back", 0).same(STATE, "back", 1).same(0, "clear").same(0, "forget");
    }

    private static void gap() {
        String sentence = "GAP (1 .. 30; 6 at first)";
        Run.of(sentence).due(6, "count", 1);
        read(sentence, "g1;", 1).due(1, "count", 1);
        read(sentence, "g30;", 1).due(30, "count", 1);
        read(sentence, "s9;", 1).due(6, "count", 1);
        fault(sentence, "g0;", 1);
        fault(sentence, "g31;", 1);
        fault(sentence, "g-1;", 1);
    }

    private static void slack() {
        String sentence = "SLACK (0 .. 30; 6 at first)";
        Run.of(sentence).due(6, "count", 2);
        read(sentence, "s0;", 1).due(0, "count", 2);
        read(sentence, "s30;", 1).due(30, "count", 2);
        read(sentence, "g9;", 1).due(6, "count", 2);
        fault(sentence, "s31;", 1);
        fault(sentence, "s-1;", 1);
    }

    private static void people() {
        String sentence = "PEOPLE 0 .. (6 of them at most)";
        read(sentence, "g1;", 1).due(0, "count", 0).same(BAD, "person", 0, 0);
        read(sentence, "p1 1;", 1).due(1, "count", 0).due(1, "person", 0, 0).same(BAD, "person", 1, 0);
        read(sentence, SIX, 6).due(6, "count", 0).due(6, "person", 5, 0).same(BAD, "person", 6, 0);
        String seventh = "a seventh person";
        fault(seventh, SIX + "p7 7;", 30);
        fault(seventh, SIX + "p", 30);
        fault(seventh, SIX + "k5 1;  p7 7;", 37);
        Run.told(seventh, SIX).read(SIX).due(6, "count", 0);
    }

    private static void heavyAndThick() {
        String heavy = "HEAVY (1 .. 9)";
        read(heavy, "p1 5;", 1).due(1, "person", 0, 0);
        read(heavy, "p9 5;", 1).due(9, "person", 0, 0);
        fault(heavy, "p0 5;", 1);
        fault(heavy, "p10 5;", 1);
        String thick = "THICK (1 .. 9, the wool)";
        read(thick, "p5 1;k0 1;", 2).due(1, "person", 0, 1).due(1, "row", 0, 1);
        read(thick, "p5 9;k0 1;", 2).due(9, "person", 0, 1).due(9, "row", 0, 1);
        fault(thick, "p5 0;", 3);
        fault(thick, "p5 10;", 3);
    }

    private static void rows() {
        String sentence = "ROWS (40 at most)";
        read(sentence, "p1 1;k0 20;k0 20;", 3).due(40, "now", 1).due(0, "row", 39, 0).same(BAD, "row", 40, 0);
        read(sentence, "p1 1;k0 20;k0 19;k0 1;", 4).due(40, "now", 1);
        read(sentence, "p1 1;", 1).due(0, "now", 1).same(BAD, "row", 0, 0);
        String more = "an N by which there would be more than 40 ROWS";
        fault(more, "p1 1;k0 20;k0 20;k0 1;", 20);
        fault(more, "p1 1;k0 20;k0 19;k0 2;", 20);
        fault(more, "p1 1;k0 20;k0 1;k0 20;", 19);
        fault(more, "p1 1;k0 20;k0 20;k 0   20;", 23);
        String first = "OLD (0 at first), in a row from the first one on";
        Run run = read(first, "p1 1;p2 2;k1 1;k0 2;", 4);
        run.due(1, "row", 0, 0).due(0, "row", 1, 0).due(0, "row", 2, 0);
        run.due(0, "row", 0, 2).due(0, "row", 1, 2).due(0, "row", 2, 2);
    }

    private static void rowsOfAnItem() {
        String sentence = "N ROWS, 1 .. 20";
        read(sentence, "p1 1;k0 1;", 2).due(1, "now", 1);
        read(sentence, "p1 1;k0 20;", 2).due(20, "now", 1);
        fault(sentence, "p1 1;k0 0;", 8);
        fault(sentence, "p1 1;k0 21;", 8);
        fault(sentence, "p1 1;k0 40;", 8);
        read("behind those there are", "p1 1;p2 2;k1 2;k0 1;k1 1;", 5).due(1, "row", 0, 0).due(1, "row", 1, 0)
            .due(0, "row", 2, 0).due(1, "row", 3, 0).due(4, "now", 1);
    }

    private static void personToldAhead() {
        String sentence = "of a person told ahead";
        read(sentence, "p1 1;k0 1;p2 2;k1 1;", 4).due(0, "row", 0, 0).due(1, "row", 1, 0);
        read(sentence, SIX + "k5 1;", 7).due(5, "row", 0, 0);
        fault(sentence, "k0 1;", 1);
        fault(sentence, "k0 1;p1 1;", 1);
        fault(sentence, "p1 1;k1 1;p2 2;", 6);
        fault(sentence, SIX + "k6 1;", 31);
        fault(sentence, SIX + "k99 1;", 31);
    }

    private static void bytesOfTheText() {
        String sentence = "a text (150 bytes at most)";
        Run.of(sentence).times(149, "type", ' ').due(150, "type", ' ').same(FULL, "type", ' ').due(150, "count", 5);
        read(sentence, "p1 2;" + " ".repeat(142) + "g9;", 2).due(9, "count", 1);
        read(sentence, "p1 1;" + "k0 1;".repeat(29), 30).due(29, "now", 1);
        Run tooLong = Run.of(sentence).type("g1" + " ".repeat(148)).same(FULL, "type", ';').due(FULL, "type", ';');
        tooLong.same(-160, "gorge").due(150, "clear").due(1, "type", ';');
        fault(sentence, "g" + "1".repeat(149), 1);
        fault(sentence, "p".repeat(150), 0);
        fault(sentence, " ".repeat(149) + ";", 149);
    }

    private static void blanks() {
        String sentence = "blanks (32) between TOKENS";
        read(sentence, "  p  3   4  ;  k   0  2  ;  ", 2).due(3, "person", 0, 0).due(4, "person", 0, 1).due(2, "now", 1);
        read(sentence, "p3 4;k0 2;g7;s8;", 4).due(7, "count", 1).due(8, "count", 2);
        int[] others = {0, 9, 10, 11, 12, 13, 28, 31, 33, 127, 128, 133, 160, 255};
        for (int other : others) {
            fault(sentence, "p3" + (char) other + "4;", 2);
            fault(sentence, (char) other + "p3 4;", 0);
            fault(sentence, "p3 4;" + (char) other, 5);
        }
        fault(sentence, "p34;", 1);
        fault(sentence, "g1 2;", 3);
        fault(sentence, "p p3 4;", 2);
        read("an empty text, and blanks alone", "", 0).due(0, "count", 0);
        read("an empty text, and blanks alone", "   ", 0).due(0, "count", 0);
    }

    private static void endedBySemicolon() {
        String sentence = "ITEMS, each letters and what is told, ended by ;";
        read(sentence, "g1;s1;", 2).due(1, "count", 1);
        fault(sentence, "g1 s1;", 3);
        fault(sentence, "g1s1;", 2);
        fault(sentence, "g1;;", 3);
        fault(sentence, ";", 0);
        fault(sentence, "g;", 1);
        fault(sentence, "p1;", 2);
        fault(sentence, "p1 1 1;", 5);
        fault(sentence, "p1 1;k0;", 7);
        fault(sentence, "p1 1;k0 1 1;", 10);
        fault(sentence, "5;", 0);
    }

    private static void onceEach() {
        String sentence = "g, s once each at most";
        read(sentence, "g1;s2;", 2).due(1, "count", 1).due(2, "count", 2);
        read(sentence, "s2;g1;", 2).due(1, "count", 1).due(2, "count", 2);
        fault(sentence, "g1;g2;", 3);
        fault(sentence, "g1;g1;", 3);
        fault(sentence, "g6;s6;p1 1; g6;", 12);
        fault(sentence, "s0;s0;", 3);
        fault(sentence, "s1;g6;s", 6);
        Run.told(sentence, "g3;s4;").read("g5;s6;").due(5, "count", 1).due(6, "count", 2);
        Run behindFault = Run.of(sentence).type("g3;s4;x").due(-16, "gorge").call("clear");
        behindFault.read("g5;s7;").due(5, "count", 1).due(7, "count", 2);
    }

    private static void letters() {
        String sentence = "TOKENS are letters a .. z side by side";
        fault(sentence, "pa1 1;", 0);
        fault(sentence, "pz1 1;", 0);
        fault(sentence, "g1;gs1;", 3);
        fault(sentence, "g1 a", 3);
        fault(sentence, "g1 z", 3);
        fault(sentence, "p" + (char) ('a' - 1) + "1 1;", 1);
        fault(sentence, "p" + (char) ('z' + 1) + "1 1;", 1);
        fault(sentence, "P1 1;", 0);
        fault(sentence, "pP1 1;", 1);
        fault(sentence, "g1;A", 3);
        fault(sentence, "g1;Z", 3);
    }

    private static void figures() {
        String sentence = "NUMBERS and ;";
        read(sentence, "s0;", 1).due(0, "count", 2);
        read(sentence, "g9;", 1).due(9, "count", 1);
        read(sentence, "g10;s29;", 2).due(10, "count", 1).due(29, "count", 2);
        fault(sentence, "g1" + (char) ('0' - 1) + ";", 2);
        fault(sentence, "g1" + (char) ('9' + 1) + ";", 2);
        fault(sentence, "g" + (char) ('0' - 1) + ";", 1);
        fault(sentence, "g" + (char) ('9' + 1) + ";", 1);
        fault(sentence, "g1" + (char) (';' + 1), 2);
        fault(sentence, "g+1;", 1);
    }

    private static void lettersThatBeginNoItem() {
        String sentence = "letters that begin no ITEM";
        for (char c = 'a'; c <= 'z'; c++) {
            if ("pkgs".indexOf(c) < 0) {
                fault(sentence, " " + c + "1 1;", 1);
            }
        }
        fault(sentence, "pp1 1;", 0);
        fault(sentence, "gg1;", 0);
        fault(sentence, "p1 1;kk0 1;", 5);
        fault(sentence, "s1;ss", 3);
    }

    private static void firstOfSeveralFaults() {
        String sentence = "the first TOKEN that can't stand there";
        fault(sentence, "g0;x;s31;", 1);
        fault(sentence, "x g0", 0);
        fault(sentence, "g31", 1);
        fault(sentence, "p1 10 ! 100", 3);
        fault(sentence, "p0 0;", 1);
        fault(sentence, "k0 21;", 1);
        String none = "of a byte that begins none, that TOKEN's";
        fault(none, "!", 0);
        fault(none, "p1 1;k0 !", 8);
        fault(none, "g1;  \u00e9", 5);
    }

    private static void aboveNinetyNine() {
        String sentence = "a NUMBER above 99";
        fault(sentence, "g99;", 1);
        fault(sentence, "g100;", 1);
        fault(sentence, "g 256;", 2);
        fault(sentence, "g65537;", 1);
        fault(sentence, "g4294967297;", 1);
        fault(sentence, "g18446744073709551617;", 1);
        fault(sentence, "s100;", 1);
        fault(sentence, "p101 1;", 1);
        fault(sentence, "p1 101;", 3);
        fault(sentence, "p1 1;k100 1;", 6);
        fault(sentence, "p1 1;k0 100;", 8);
        fault(sentence, "g1 100;", 3);
        fault(sentence, "100;", 0);
    }

    private static void zeroAhead() {
        String sentence = "a NUMBER with a 0 ahead of others";
        fault(sentence, "g01;", 1);
        fault(sentence, "s00;", 1);
        fault(sentence, "s05;", 1);
        fault(sentence, "p01 1;", 1);
        fault(sentence, "p1 01;", 3);
        fault(sentence, "p1 1;k00 1;", 6);
        fault(sentence, "p1 1;k0 01;", 8);
        fault(sentence, "g001;", 1);
        fault(sentence, "s0 0;", 3);
        read(sentence, "p1 1;s0;k0 10;g20;", 4).due(10, "now", 1).due(20, "count", 1);
    }

    private static void endsTooEarly() {
        String sentence = "the text's length, if it ends too early";
        String[] items = {"p1 1", "k0 1", "g1", "s1"};
        for (String item : items) {
            for (int length = 1; length <= item.length(); length++) {
                String text = "p1 1;" + item.substring(0, length);
                fault(sentence, text, text.length());
                fault(sentence, text + "  ", text.length() + 2);
            }
        }
        fault(sentence, "g1" + " ".repeat(148), 150);
        fault(sentence, " ".repeat(149) + "p", 150);
        fault(sentence, " ".repeat(148) + "g1", 150);
    }

    private static void type() {
        String sentence = "A byte (0 .. 255) comes to THE TEXT: how many it has. BAD; FULL.";
        Run.lived(sentence).within(BAD, "type", new int[] {0, 255});
        Run.of(sentence).within(BAD, "type", new int[] {0, 255});
        Run.of(sentence).due(1, "type", 0).due(2, "type", 255).due(2, "count", 5);
        Run full = Run.of(sentence).times(150, "type", ';');
        full.same(FULL, "type", 0).same(FULL, "type", 255).same(BAD, "type", -1).same(BAD, "type", 256);
        full.due(FULL, "type", ';').due(FULL, "type", ';').due(150, "clear").due(1, "type", ';');
    }

    private static void clear() {
        String sentence = "THE TEXT is empty: how many bytes it had.";
        Run.of(sentence).same(0, "clear").type("g").due(1, "clear").due(0, "clear").due(0, "count", 5);
        Run.of(sentence).times(150, "type", '1').due(150, "clear").read("g7;").due(7, "count", 1);
        Run.of(sentence).type("g1234567;").call("clear").type("g1").due(-12, "gorge");
    }

    private static void gorge() {
        String sentence = "THE TEXT tells all, and is empty then: how many ITEMS.";
        read(sentence, "g3;", 1).due(0, "count", 5).due(0, "clear");
        Run.lived(sentence).call("clear").type("g3;").due(1, "gorge").due(0, "gorge").due(6, "count", 1);
        String fault = "-10 less FAULT: nothing changes.";
        fault(fault, "x", 0);
        fault(fault, "p9 9;p9 9;p9 9;k2 20;g30;s30;x", 29);
        Run mended = Run.of(fault).type("p1 2").due(-14, "gorge").type(";").due(1, "gorge").due(2, "person", 0, 1);
        mended.due(0, "count", 5);
    }

    private static void readAnew() {
        String sentence = "Read anew: as told, dry, YEAR 0, nothing PLUMBED or to be UNDONE, IMAGES are gone.";
        Run anew = Run.lived(sentence).call("clear").read("p3 8;k0 7;");
        anew.due(1, "count", 0).due(6, "count", 1).due(6, "count", 2);
        anew.due(0, "count", 3).due(0, "count", 4).due(0, "now", 0).due(0, "now", 3).due(7, "now", 1);
        for (int r = 0; r < 7; r++) {
            anew.due(0, "row", r, 0).due(8, "row", r, 1).due(0, "row", r, 2);
        }
        anew.same(STATE, "undo").same(STATE, "back", 0).same(STATE, "back", 1).same(BAD, "person", 1, 0);
        anew.due(63, "drew", 0).due(81, "night", 0).due(0, "forget");
        Run.lived(sentence).call("clear").read("p3 8;").due(0, "now", 1).same(BAD, "row", 0, 0).due(0, "keep", 1)
            .same(STATE, "back", 0).due(0, "back", 1);
        Run.told(sentence, "p1 1;k0 20;k0 20;").times(9, "year").read("p2 2;k0 1;").same(BAD, "row", 1, 0)
            .due(0, "row", 0, 2).due(1, "now", 1).due(1, "person", 0, 2);
    }

    private static void person() {
        String sentence = "Of a PERSON: 0 HEAVY, 1 THICK, 2 SHARE. BAD.";
        Run.lived(sentence).within(BAD, "person", new int[] {0, 1}, new int[] {0, 2});
        Run.told(sentence, SIX).within(BAD, "person", new int[] {0, 5}, new int[] {0, 2});
        Run.told(sentence, SIX).due(6, "person", 5, 0).due(6, "person", 5, 1).due(0, "person", 5, 2);
        String share = "SHARE of a PERSON: how many ROWS are his.";
        Run all = Run.told(share, "p9 9;p1 9;k0 20;k0 20;g30;s30;").same(40, "person", 0, 2).same(0, "person", 1, 2);
        all.call("crosses", 1).due(39, "person", 0, 2).due(1, "person", 1, 2);
    }

    private static void row() {
        String sentence = "Of a ROW: 0 WHOSE, 1 THICK, 2 how OLD, 3 what it BEARS. BAD.";
        Run.lived(sentence).within(BAD, "row", new int[] {0, 6}, new int[] {0, 3});
        Run.told(sentence, "p1 1;k0 20;k0 20;").within(BAD, "row", new int[] {0, 39}, new int[] {0, 3});
        Run.told(sentence, "p1 1;").same(BAD, "row", 0, 0).same(BAD, "row", -1, 0).same(BAD, "row", 0, 4);
        Run gone = Run.told(sentence, "p1 1;k0 2;").call("drops", 0).due(0, "row", 0, 0).same(BAD, "row", 1, 0);
        gone.call("undo").due(0, "row", 1, 0).same(BAD, "row", 2, 0);
    }
}
