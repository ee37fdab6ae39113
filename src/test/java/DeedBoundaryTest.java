/** The boundaries of what is done on the bridge and of how it is now: section 2 of the document, promises 7 to 14. */
public final class DeedBoundaryTest {
    private static final int BAD = WoolBridge.BAD;
    private static final int STATE = WoolBridge.STATE;
    private static final int NONE = WoolBridge.NONE;

    public static void main(String[] args) {
        whatARowBears();
        howLong();
        holdsByLength();
        holdsByWeight();
        crossed();
        crossedBeyondForty();
        crosses();
        turnsBack();
        drops();
        draws();
        rains();
        old();
        year();
        youngRowsInTheLastYear();
        eightAreKnown();
        allIsAsAhead();
        whatIsNotUndone();
        undo();
        now();
        bears();
        may();
        thin();
        holes();
        middle();
        Check.end();
    }

    private static void whatARowBears() {
        String sentence = "A ROW BEARS THICK less a quarter (cut) of how OLD it is, 0 at least.";
        Run two = Run.told(sentence, "p1 2;k0 1;").due(2, "row", 0, 3);
        two.times(3, "year").due(2, "row", 0, 3).call("year").due(1, "row", 0, 3);
        two.times(3, "year").due(1, "row", 0, 3).call("year").due(0, "row", 0, 3);
        two.times(4, "year").due(0, "row", 0, 3).times(4, "year").due(0, "row", 0, 3).due(2, "row", 0, 1);
        Run nine = Run.told(sentence, "p1 9;k0 1;").times(35, "year").due(1, "row", 0, 3);
        nine.call("year").due(0, "row", 0, 3).times(63, "year").due(99, "row", 0, 2).due(0, "row", 0, 3);
    }

    private static void howLong() {
        String sentence = "as LONG as it has ROWS, and a fifth (cut) more in RAIN (not at first)";
        Run.of(sentence).due(0, "now", 3).due(0, "now", 2).due(0, "rains", 1).due(0, "now", 2);
        int[] rows = {1, 4, 5, 6, 9, 10, 14, 15, 19, 20};
        int[] inRain = {1, 4, 6, 7, 10, 12, 16, 18, 22, 24};
        for (int i = 0; i < rows.length; i++) {
            Run run = Run.told(sentence, "p1 1;k0 " + rows[i] + ";").due(0, "now", 3).due(rows[i], "now", 2);
            run.due(inRain[i], "rains", 1).due(inRain[i], "now", 2).due(rows[i], "now", 1).due(rows[i], "rains", 0);
        }
        Run.told(sentence, "p1 1;k0 20;k0 19;").due(46, "rains", 1);
        Run.told(sentence, "p1 1;k0 20;k0 20;").due(40, "now", 2).due(48, "rains", 1).due(48, "now", 2);
    }

    private static void holdsByLength() {
        String sentence = "HOLDS somebody, if it is LONG as GAP at least, as GAP and SLACK at most";
        Run.told(sentence, "p1 9;k0 5;g6;s2;").due(0, "now", 5).same(STATE, "crosses", 0);
        Run.told(sentence, "p1 9;k0 6;g6;s2;").due(1, "now", 5).due(7, "crosses", 0);
        Run.told(sentence, "p1 9;k0 8;g6;s2;").due(1, "now", 5).due(9, "crosses", 0).due(0, "now", 5);
        Run.told(sentence, "p1 9;k0 9;g6;s2;").due(0, "now", 5).same(STATE, "crosses", 0);
        Run.told(sentence, "p1 9;k0 6;g6;s0;").due(7, "crosses", 0).same(STATE, "crosses", 0);
        Run.told(sentence, "p1 9;g1;s30;").same(STATE, "crosses", 0);
        Run.told(sentence, "p1 9;k0 1;g1;s0;").due(2, "crosses", 0);
        Run.told(sentence, "p1 9;k0 20;k0 20;g10;s30;").due(40, "crosses", 0).due(40, "crosses", 0);
        Run.told(sentence, "p1 9;k0 20;k0 20;g10;s29;").same(STATE, "crosses", 0);
        Run.told(sentence, "p1 9;k0 20;k0 9;g30;s0;").same(STATE, "crosses", 0);
        String rain = "LONG in RAIN";
        Run.told(rain, "p1 9;k0 5;g6;s0;").same(STATE, "crosses", 0).call("rains", 1).due(6, "crosses", 0);
        Run.told(rain, "p1 9;k0 5;g5;s0;").call("rains", 1).same(STATE, "crosses", 0).call("rains", 0).due(6, "crosses", 0);
        Run.told(rain, "p1 9;k0 20;k0 20;g30;s18;").call("rains", 1).due(40, "crosses", 0);
        Run.told(rain, "p1 9;k0 20;k0 20;g30;s17;").call("rains", 1).same(STATE, "crosses", 0);
    }

    private static void holdsByWeight() {
        String sentence = "twice what each ROW BEARS is HEAVY or more";
        for (int heavy = 1; heavy <= 9; heavy++) {
            for (int thick = 1; thick <= 9; thick++) {
                Run run = Run.told(sentence, "p" + heavy + " " + thick + ";k0 6;");
                if (2 * thick >= heavy) {
                    run.due(1, "now", 5).due(6 + heavy, "crosses", 0);
                } else {
                    run.due(0, "now", 5).same(STATE, "crosses", 0);
                }
            }
        }
        Run first = Run.told(sentence, "p8 4;k0 6;").due(1, "now", 5);
        first.call("draws", 0).same(STATE, "crosses", 0).call("undo").call("draws", 5).same(STATE, "crosses", 0);
        Run rotten = Run.told(sentence, "p1 1;k0 6;").times(3, "year").due(1, "now", 5);
        rotten.call("year").same(STATE, "crosses", 0);
    }

    private static void crossed() {
        String sentence = "as many ROWS as he is HEAVY come behind the last one, his, THICK as his wool, OLD 0";
        Run light = Run.told(sentence, "p1 8;p9 5;k1 6;").call("year").due(7, "crosses", 0);
        light.due(0, "row", 6, 0).due(8, "row", 6, 1).due(0, "row", 6, 2).due(1, "row", 5, 0).due(1, "row", 5, 2);
        Run heavy = Run.told(sentence, "p1 8;p9 5;k0 6;").call("year").due(15, "crosses", 1);
        heavy.due(0, "row", 5, 0).due(1, "row", 6, 0).due(1, "row", 14, 0).same(BAD, "row", 15, 0);
    }

    private static void crossedBeyondForty() {
        String sentence = "the first ROWS go, if there would be more than 40";
        Run fits = Run.told(sentence, "p9 9;p1 9;k1 1;k0 20;k0 10;g30;s30;").due(40, "crosses", 0);
        fits.due(1, "row", 0, 0).due(1, "person", 1, 2).due(0, "row", 39, 0).same(BAD, "row", 40, 0);
        Run oneGoes = Run.told(sentence, "p9 9;p1 9;k1 1;k0 20;k0 11;g30;s30;").due(40, "crosses", 0);
        oneGoes.due(0, "row", 0, 0).due(0, "person", 1, 2).due(40, "person", 0, 2);
        Run full = Run.told(sentence, "p9 8;p1 9;k1 10;k0 20;k1 10;g30;s30;").call("year").due(40, "crosses", 0);
        full.due(1, "row", 0, 0).due(0, "row", 1, 0).due(11, "person", 1, 2).due(29, "person", 0, 2);
        full.due(1, "row", 30, 2).due(0, "row", 31, 2).due(1, "row", 30, 0).due(0, "row", 31, 0).due(8, "row", 31, 1);
        Run one = Run.told(sentence, "p1 9;p1 8;k0 1;k1 20;k1 19;g30;s30;").due(40, "crosses", 1);
        one.due(0, "person", 0, 2).due(40, "person", 1, 2);
    }

    private static void crosses() {
        String sentence = "CROSSED: how many ROWS there are then. BAD; STATE: it does not HOLD.";
        Run.told(sentence, "p1 9;p1 9;k0 6;").within(BAD, "crosses", new int[] {0, 1});
        Run.told(sentence, "p1 1;p1 1;p1 1;p1 1;p1 1;p1 1;k0 6;").within(BAD, "crosses", new int[] {0, 5});
        Run.lived(sentence).same(BAD, "crosses", 2);
        Run refused = Run.told(sentence, "p9 4;k0 6;").same(STATE, "crosses", 0).same(BAD, "crosses", 1).same(BAD, "crosses", -1);
        refused.due(STATE, "crosses", 0).due(6, "now", 1).due(0, "count", 4);
    }

    private static void turnsBack() {
        String sentence = "the ROWS at the end that are the last one's (all of one PERSON's, side by side) go";
        Run run = Run.told(sentence, "p1 1;p2 2;k1 2;k0 1;k1 2;k1 3;").due(5, "turnsBack").due(3, "now", 1);
        run.due(2, "person", 1, 2).due(1, "turnsBack").due(2, "turnsBack").due(0, "now", 1).due(3, "count", 4);
        Run.told(sentence, "p1 1;p2 2;k0 20;k0 20;").due(40, "turnsBack").due(0, "now", 1);
        Run.told(sentence, "p1 1;p2 2;k0 20;k0 19;k1 1;").due(1, "turnsBack").due(39, "now", 1).due(39, "turnsBack");
        Run both = Run.told(sentence, "p2 5;k0 6;").call("year").call("crosses", 0).due(8, "turnsBack");
        both.due(2, "undo").due(8, "now", 1);
        String none = "BACK: how many ROWS went. STATE: there are none.";
        Run.of(none).same(STATE, "turnsBack").due(STATE, "turnsBack").due(0, "count", 4);
        Run gone = Run.told(none, "p1 1;k0 1;").due(1, "turnsBack").same(STATE, "turnsBack");
        gone.due(STATE, "turnsBack").due(1, "count", 4).due(0, "undo").due(1, "now", 1);
    }

    private static void drops() {
        String sentence = "DROPPED: how many ROWS there are then. BAD.";
        Run.lived(sentence).within(BAD, "drops", new int[] {0, 6});
        Run.told(sentence, "p1 1;k0 20;k0 20;").within(BAD, "drops", new int[] {0, 39});
        Run ends = Run.told(sentence, "p1 1;p2 2;p3 3;k0 1;k1 1;k2 1;").due(2, "drops", 0).due(1, "row", 0, 0);
        ends.due(2, "row", 1, 0).due(1, "drops", 1).due(1, "row", 0, 0).same(BAD, "drops", 1);
        ends.due(0, "drops", 0).same(BAD, "drops", 0).due(BAD, "drops", 0).due(3, "count", 4);
        Run middle = Run.told(sentence, "p1 1;p2 2;p3 3;k0 1;k1 1;k2 1;").call("year").due(2, "drops", 1);
        middle.due(0, "row", 0, 0).due(2, "row", 1, 0).due(3, "row", 1, 1).due(1, "row", 1, 2);
    }

    private static void draws() {
        String sentence = "DRAWN: what it BEARS then. BAD; STATE: it has no THICK.";
        Run.lived(sentence).within(BAD, "draws", new int[] {0, 6});
        Run.told(sentence, "p1 1;k0 20;k0 20;").within(BAD, "draws", new int[] {0, 39});
        Run run = Run.told(sentence, "p1 2;k0 2;").due(1, "draws", 1).due(0, "draws", 1).same(STATE, "draws", 1);
        run.due(STATE, "draws", 1).due(0, "row", 1, 1).due(2, "row", 0, 1).due(2, "count", 4).same(BAD, "draws", 2);
        run.due(1, "draws", 0);
        String rotten = "THICK is 1 less (0 at least)";
        Run old = Run.told(rotten, "p1 1;k0 1;").times(4, "year").due(0, "row", 0, 3).due(0, "draws", 0);
        old.due(0, "row", 0, 1).same(STATE, "draws", 0);
        Run nine = Run.told(rotten, "p1 9;k0 1;");
        for (int left = 8; left >= 0; left--) {
            nine.due(left, "draws", 0).due(left, "row", 0, 1);
        }
        nine.same(STATE, "draws", 0).due(8, "count", 4);
    }

    private static void rains() {
        String sentence = "RAIN begins (1), ends (0): how LONG it is then. BAD; STATE: it is so.";
        Run.told(sentence, "p1 1;k0 5;").within(BAD, "rains", new int[] {0, 1});
        Run.lived(sentence).within(BAD, "rains", new int[] {0, 1});
        Run run = Run.told(sentence, "p1 1;k0 5;").same(STATE, "rains", 0).due(STATE, "rains", 0).due(0, "count", 4);
        run.due(6, "rains", 1).due(1, "now", 3).same(STATE, "rains", 1).due(STATE, "rains", 1).due(1, "count", 4);
        run.due(5, "rains", 0).due(0, "now", 3).same(STATE, "rains", 0).due(2, "count", 4);
    }

    private static void old() {
        String sentence = "each ROW is 1 more OLD (99 at most)";
        Run run = Run.told(sentence, "p1 9;k0 2;").times(98, "year").due(98, "row", 0, 2);
        run.call("year").due(99, "row", 0, 2).due(99, "row", 1, 2);
        run.call("year").due(99, "row", 0, 2).due(99, "row", 1, 2).due(100, "now", 0);
        run.due(7, "undo").due(99, "row", 0, 2).due(6, "undo").due(98, "row", 0, 2);
        Run.told(sentence, "p1 1;k0 20;k0 20;").call("year").due(1, "row", 0, 2).due(1, "row", 39, 2);
        Run.told(sentence, "p1 9;p1 9;k0 6;").call("year").call("crosses", 0).call("year").due(2, "row", 5, 2).due(1, "row", 6, 2);
    }

    private static void year() {
        String sentence = "the YEAR is one more (0 at first, 200 at most)";
        Run.of(sentence).due(0, "now", 0).due(9, "year").due(1, "now", 0);
        Run run = Run.told(sentence, "p1 9;k0 2;").times(199, "year").due(199, "now", 0).due(0, "year").due(200, "now", 0);
        run.same(STATE, "year").due(STATE, "year").due(200, "now", 0).due(8, "count", 4).due(99, "row", 0, 2);
        run.due(7, "undo").due(199, "now", 0).due(0, "year").due(200, "now", 0).same(STATE, "year").due(8, "count", 4);
        Run others = Run.told(sentence, "p1 9;k0 2;").times(200, "year").due(2, "rains", 1).due(0, "draws", 0);
        others.due(1, "drops", 1).due(1, "turnsBack").due(200, "now", 0).same(STATE, "year").due(200, "keep", 0);
        others.call("undo").due(200, "back", 0).same(STATE, "year");
        others.read("p1 9;").due(0, "now", 0).due(9, "year");
        String bears = "A YEAR: BEARS then.";
        Run then = Run.told(bears, "p1 5;k0 1;").due(9, "year").due(9, "year").due(9, "year").due(8, "year").due(8, "now", 4);
        then.times(12, "year").due(2, "now", 4).due(2, "year").due(2, "year").due(2, "year").due(0, "year");
    }

    /** Rows are knitted anew before they rot, so that in the year 200 some could still grow older. */
    private static void youngRowsInTheLastYear() {
        Run run = Run.told("STATE: it is YEAR 200. (nothing changes)", "p1 9;k0 1;g1;");
        for (int i = 0; i < 5; i++) {
            run.times(35, "year").due(2, "crosses", 0).due(1, "drops", 0);
        }
        run.times(24, "year").due(2, "crosses", 0).due(1, "drops", 0).due(199, "now", 0).due(9, "year");
        run.due(1, "row", 0, 2).same(STATE, "year").due(STATE, "year").due(1, "row", 0, 2).due(200, "now", 0);
        run.due(35, "over", 0).due(1, "odds", 0, 5, 6, 0).due(2, "crosses", 0).due(0, "row", 1, 2);
    }

    private static void eightAreKnown() {
        String sentence = "UNDONE: the latest of these (8 are known, older ones are lost)";
        int[] deeds = {0, 1, 7, 8, 9, 10, 16, 17, 18, 27, 100};
        for (int many : deeds) {
            int known = Math.min(8, many);
            Run run = Run.told(sentence, "p1 9;k0 6;").times(many, "year").due(known, "count", 4);
            for (int left = known - 1; left >= 0; left--) {
                run.due(left, "undo").due(many - known + left, "now", 0).due(left, "count", 4);
            }
            run.same(STATE, "undo").due(STATE, "undo").due(many - known, "now", 0);
        }
        Run again = Run.told(sentence, "p1 9;k0 6;").times(9, "year").due(7, "undo").call("rains", 1).due(8, "count", 4);
        again.times(8, "undo").due(1, "now", 0).due(0, "now", 3).same(STATE, "undo");
        Run lost = Run.told(sentence, "p1 9;k0 6;").times(12, "year").times(5, "undo").times(2, "year").due(5, "count", 4);
        lost.times(5, "undo").due(4, "now", 0).same(STATE, "undo");
    }

    private static void allIsAsAhead() {
        String sentence = "all is as ahead of it";
        Run lived = Run.lived(sentence);
        lived.undone("crosses", 0).undone("turnsBack").undone("drops", 0).undone("drops", 6).undone("draws", 5);
        lived.undone("rains", 0).undone("year");
        Run full = Run.told(sentence, "p9 9;p1 8;k1 20;k1 20;g30;s30;").call("year");
        full.undone("crosses", 1).undone("turnsBack").undone("drops", 39).undone("draws", 39).undone("rains", 1).undone("year");
        Run.told(sentence, "p9 9;p1 8;k0 5;k1 20;k1 15;g30;s30;").call("year").undone("crosses", 0);
        Run.told(sentence, "p1 9;k0 2;").times(100, "year").call("undo").undone("draws", 0).undone("year");
        Run.of(sentence).undone("rains", 1).undone("year");
        Run each = Run.told(sentence, "p2 9;k0 6;").call("crosses", 0).call("rains", 1).call("draws", 0).call("year");
        each.call("drops", 3).call("turnsBack").due(5, "undo").due(7, "now", 1).due(4, "undo").due(8, "now", 1);
        each.due(3, "undo").due(0, "now", 0).due(2, "undo").due(9, "row", 0, 1).due(1, "undo").due(0, "now", 3);
        each.due(0, "undo").due(6, "now", 1).same(STATE, "undo");
    }

    private static void whatIsNotUndone() {
        String sentence = "UNDONE: the latest of these";
        Run run = Run.told(sentence, "p1 9;k0 6;").call("year");
        run.call("plumbs", 0, 9).call("mark", 0, 0).call("keep", 0).call("type", 'g').due(1, "count", 4).due(0, "undo");
        run.due(1, "count", 3).due(1, "trace").due(1, "count", 5).due(1, "back", 0).due(0, "undo").same(STATE, "undo");
        run.due(1, "forget").due(1, "clear").same(STATE, "undo");
    }

    private static void undo() {
        String sentence = "UNDONE: how many more may be. STATE: none.";
        Run.of(sentence).same(STATE, "undo").due(STATE, "undo").due(9, "year").due(0, "undo").same(STATE, "undo");
        Run refused = Run.told(sentence, "p9 1;k0 6;").call("crosses", 0).call("crosses", 1).call("drops", 6).call("draws", -1);
        refused.call("rains", 0).call("rains", 2).due(0, "count", 4).same(STATE, "undo");
    }

    private static void now() {
        String sentence = "0 the YEAR .. 8 MIDDLE (NONE). BAD.";
        Run.lived(sentence).within(BAD, "now", new int[] {0, 8});
        Run.of(sentence).within(BAD, "now", new int[] {0, 8});
        Run lived = Run.lived(sentence);
        long[] seen = {2, 7, 8, 1, 6, 3, 0, 0, 0};
        for (int what = 0; what < seen.length; what++) {
            lived.same(seen[what], "now", what);
        }
    }

    private static void bears() {
        String sentence = "BEARS: the greatest HEAVY (0 .. 9) (9 without ROWS)";
        Run.of(sentence).due(9, "now", 4);
        for (int thick = 1; thick <= 9; thick++) {
            Run.told(sentence, "p1 " + thick + ";k0 1;").due(Math.min(9, 2 * thick), "now", 4);
        }
        Run run = Run.told(sentence, "p1 1;p1 9;k1 20;k0 1;k1 19;").due(2, "now", 4).call("draws", 20).due(0, "now", 4);
        run.call("drops", 20).due(9, "now", 4).call("turnsBack").due(9, "now", 4);
        Run.told(sentence, "p1 1;p1 9;k0 1;k1 20;k1 19;").due(2, "now", 4);
        Run.told(sentence, "p1 1;p1 9;k1 20;k1 19;k0 1;").due(2, "now", 4);
    }

    private static void may() {
        String sentence = "MAY: PEOPLE (bits) whom it HOLDS";
        Run.of(sentence).due(0, "now", 5);
        Run.told(sentence, "p1 9;p2 9;p3 9;p4 9;p5 9;p9 9;k0 6;").due(63, "now", 5).call("drops", 0).due(0, "now", 5);
        Run.told(sentence, "p9 2;p1 9;p5 9;p9 9;p8 9;p4 9;k0 6;").due(0b100010, "now", 5);
    }

    private static void thin() {
        String sentence = "THIN: the ROW that BEARS least, of several the first; NONE: no ROWS.";
        Run.of(sentence).due(NONE, "now", 6);
        Run.told(sentence, "p1 9;k0 1;").due(0, "now", 6).call("drops", 0).due(NONE, "now", 6);
        Run.told(sentence, "p1 9;k0 20;k0 20;").due(0, "now", 6).call("draws", 39).due(39, "now", 6).call("draws", 7).due(7, "now", 6);
        Run.told(sentence, "p1 1;p1 2;k1 3;k0 2;k1 1;").due(3, "now", 6).times(8, "year").due(0, "now", 6);
    }

    private static void holes() {
        String sentence = "HOLES: ROWS that BEAR nothing, how many.";
        Run.of(sentence).due(0, "now", 7);
        Run run = Run.told(sentence, "p1 1;p1 2;k0 20;k1 20;").due(0, "now", 7).times(3, "year").due(0, "now", 7);
        run.call("year").due(20, "now", 7).times(3, "year").due(20, "now", 7).call("year").due(40, "now", 7);
        Run.told(sentence, "p1 1;k0 3;").call("draws", 2).due(1, "now", 7).call("draws", 0).due(2, "now", 7);
    }

    private static void middle() {
        String sentence = "MIDDLE: whose the middle ROW is (of two the first one); NONE.";
        Run.of(sentence).due(NONE, "now", 8);
        Run.told(sentence, "p1 1;p1 1;k1 1;").due(1, "now", 8);
        Run.told(sentence, "p1 1;p1 1;k1 1;k0 1;").due(1, "now", 8);
        Run.told(sentence, "p1 1;p1 1;k0 1;k1 1;").due(0, "now", 8);
        Run.told(sentence, "p1 1;p1 1;k0 1;k1 1;k0 1;").due(1, "now", 8).call("turnsBack").due(0, "now", 8);
        Run.told(sentence, "p1 1;p1 1;k0 20;k1 20;").due(0, "now", 8).call("drops", 0).due(1, "now", 8);
        Run.told(sentence, "p1 1;p1 1;k0 19;k1 20;k0 1;").due(1, "now", 8);
    }
}
