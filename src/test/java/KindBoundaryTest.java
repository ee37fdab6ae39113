/** The boundaries of kinds, images and counts, and in which order a call is refused: section 4, promises 25 to 29. */
public final class KindBoundaryTest {
    private static final int BAD = WoolBridge.BAD;
    private static final int STATE = WoolBridge.STATE;
    private static final int FULL = WoolBridge.FULL;
    private static final int NONE = WoolBridge.NONE;
    private static final int NO = WoolBridge.NO;
    private static final int[] ZERO_ONE = {0, 1};

    public static void main(String[] args) {
        constants();
        mark();
        markOfEachKind();
        markAtTheEnds();
        trace();
        keep();
        back();
        imagesKeepWhatMayBeUndone();
        imagesKeepNothingElse();
        imagesStayApart();
        count();
        firstOfTheRefusals();
        fiveHundredAndTwelveCalls();
        Check.end();
    }

    private static void constants() {
        Check.due("BAD", WoolBridge.BAD, -1);
        Check.due("STATE", WoolBridge.STATE, -2);
        Check.due("FULL", WoolBridge.FULL, -3);
        Check.due("NONE", WoolBridge.NONE, -9);
        Check.due("NO = -1000000: What none is, where a number may be below 0.", WoolBridge.NO, -1000000);
    }

    private static void mark() {
        String sentence = "MARK. NO: BAD.";
        Run.lived(sentence).within(NO, "mark", new int[] {0, 5}, new int[] {0, 6});
        Run.told(sentence, "p1 1;k0 20;k0 20;").within(NO, "mark", new int[] {0, 5}, new int[] {0, 39});
        Run none = Run.told(sentence, "p1 1;");
        for (int kind = -1; kind <= 6; kind++) {
            none.same(NO, "mark", kind, 0);
        }
        none.due(NO, "mark", 0, 0).due(NO, "mark", 5, -1).due(0, "trace");
    }

    private static void markOfEachKind() {
        String sentence = "MARK of a ROW as if of a KIND";
        Run run = Run.told(sentence, "p7 6;k0 1;").times(9, "year");
        int[] wants = {6, 6 + 4, 6 - 9, (6 + 4) * 2, 6 - 9 + 7, 6 + 9};
        for (int kind = 0; kind < wants.length; kind++) {
            run.due(wants[kind], "mark", kind, 0);
        }
    }

    private static void markAtTheEnds() {
        String sentence = "where a number may be below 0";
        Run old = Run.told(sentence, "p9 1;p1 9;k0 1;k1 1;").call("draws", 0).times(99, "year");
        old.due(0, "mark", 0, 0).due(0, "mark", 1, 0).due(-99, "mark", 2, 0).due(0, "mark", 3, 0).due(-90, "mark", 4, 0);
        old.due(99, "mark", 5, 0).due(9 - 99 + 1, "mark", 4, 1).due(9, "mark", 1, 1);
        old.times(101, "year").due(-99, "mark", 2, 0).due(200, "mark", 5, 0).due(209, "mark", 5, 1);
        Run young = Run.told("DROVER up times 2", "p9 9;k0 1;").due(36, "mark", 3, 0).due(18, "mark", 4, 0).due(9, "mark", 5, 0);
        young.due(9, "mark", 2, 0).due(18, "mark", 1, 0);
    }

    private static void trace() {
        String sentence = "numbers in brackets come to THE TRACE as often as mark() asks that body";
        int[] wants = {1, 11, 101, 1011, 10101, 100001};
        for (int kind = 0; kind < wants.length; kind++) {
            Run run = Run.told(sentence, "p1 1;k0 2;").due(0, "trace").call("mark", kind, 1).due(wants[kind], "trace");
            run.call("mark", kind, 0).due(2L * wants[kind], "trace").same(NO, "mark", kind, 2).same(NO, "mark", kind, -1);
            run.call("mark", 6, 0).call("mark", -1, 0).call("mark", kind, 2).due(2L * wants[kind], "trace");
        }
        Run all = Run.told(sentence, "p1 1;k0 2;").times(450, "mark", 5, 0).due(450L * 100001, "trace");
        all.same(450L * 100001, "trace");
        String mark = "as mark() asks (no other call does)";
        Run others = Run.told(mark, "p1 1;k0 6;").call("mark", 0, 0).call("row", 0, 3).call("year").call("crosses", 0);
        others.call("drew", 0).call("night", 0).call("undo").due(1, "trace").read("p1 1;").due(1, "trace");
    }

    private static void keep() {
        String sentence = "An IMAGE is kept: the YEAR. BAD.";
        Run.lived(sentence).within(BAD, "keep", ZERO_ONE);
        Run.of(sentence).within(BAD, "keep", ZERO_ONE);
        Run.of(sentence).due(0, "keep", 0).due(0, "keep", 1).due(0, "back", 0).due(0, "back", 1);
        Run.told(sentence, "p1 1;k0 1;").times(200, "year").due(200, "keep", 1).times(8, "undo").due(200, "back", 1);
        Run over = Run.told("a kept IMAGE is kept anew", "p1 1;k0 1;").due(0, "keep", 0).call("year").due(1, "keep", 0);
        over.call("year").due(1, "back", 0).due(1, "row", 0, 2).due(1, "back", 0);
    }

    private static void back() {
        String sentence = "All of that becomes as an IMAGE has it: the YEAR. BAD; STATE: none was kept.";
        Run.lived(sentence).within(BAD, "back", ZERO_ONE);
        Run none = Run.told(sentence, "p1 1;k0 1;").call("year").same(STATE, "back", 0).same(STATE, "back", 1);
        none.same(BAD, "back", 2).same(BAD, "back", -1).due(STATE, "back", 0).due(1, "now", 0);
        none.call("keep", 1).same(STATE, "back", 0).same(1, "back", 1).call("keep", 0).same(1, "back", 0);
        none.same(BAD, "back", 2).same(BAD, "back", -1);
        Run full = Run.told(sentence, "p9 7;p1 8;k0 20;k1 20;g30;s30;").times(3, "year").call("keep", 0);
        full.call("crosses", 0).call("turnsBack").call("turnsBack").call("turnsBack").due(0, "now", 1).due(3, "back", 0);
        full.due(40, "now", 1).due(20, "person", 0, 2).due(20, "person", 1, 2).due(3, "row", 0, 2).due(8, "row", 39, 1);
        Run empty = Run.told(sentence, "p1 1;k0 2;").call("turnsBack").call("keep", 0).call("undo").due(2, "now", 1);
        empty.due(0, "back", 0).due(0, "now", 1).same(BAD, "row", 0, 0).due(0, "undo").due(2, "now", 1);
        Run rain = Run.told(sentence, "p1 1;k0 5;").call("rains", 1).call("keep", 0).call("rains", 0).due(0, "back", 0);
        rain.due(1, "now", 3).due(6, "now", 2);
    }

    private static void imagesKeepWhatMayBeUndone() {
        String sentence = "IMAGES keep NOW (ROWS, RAIN, the YEAR, what may be UNDONE)";
        int[] deeds = {0, 1, 8, 9, 13};
        for (int many : deeds) {
            int known = Math.min(8, many);
            for (int behind = 0; behind <= 18; behind += 9) {
                Run run = Run.told(sentence, "p1 1;k0 1;").times(many, "year").call("keep", 0).times(behind, "year");
                run.due(many, "back", 0).due(known, "count", 4);
                for (int left = known - 1; left >= 0; left--) {
                    run.due(left, "undo").due(many - known + left, "now", 0);
                }
                run.same(STATE, "undo").due(many, "back", 0).due(known, "count", 4);
            }
        }
        Run notUndone = Run.told("back() is none of what may be UNDONE", "p1 1;k0 1;").call("keep", 0).times(3, "year");
        notUndone.due(0, "back", 0).due(0, "count", 4).same(STATE, "undo");
    }

    private static void imagesKeepNothingElse() {
        String sentence = "IMAGES keep NOW; nothing else";
        Run run = Run.told(sentence, "p1 1;k0 1;").call("plumbs", 0, 1).call("mark", 0, 0).call("type", 'g').call("keep", 0);
        run.call("plumbs", 0, 2).call("mark", 0, 0).call("type", '1').due(0, "back", 0);
        run.due(2, "count", 3).due(2, "trace").due(2, "count", 5).due(0, "drew", 0);
        run.call("forget").call("clear").due(0, "back", 0).due(0, "count", 3).due(0, "count", 5);
        run.call("year").call("keep", 1).due(0, "back", 0).due(1, "back", 1);
    }

    private static void imagesStayApart() {
        String sentence = "IMAGES 0, 1";
        Run run = Run.told(sentence, "p1 9;k0 6;").call("year").call("keep", 0).call("draws", 0).call("rains", 1).call("keep", 1);
        run.call("turnsBack").due(1, "back", 0).due(9, "row", 0, 1).due(0, "now", 3).due(1, "count", 4);
        run.call("drops", 0).call("year").due(1, "back", 1).due(8, "row", 0, 1).due(1, "now", 3).due(3, "count", 4);
        run.call("undo").call("undo").due(9, "row", 0, 1).due(1, "back", 0).due(6, "now", 1).due(0, "now", 3);
        run.due(0, "undo").due(0, "now", 0).due(1, "back", 1).due(8, "row", 0, 1).due(1, "now", 0);
        Run later = Run.told("what is done behind back() does not come to the IMAGE", "p1 9;k0 6;").call("keep", 0);
        later.call("back", 0).call("draws", 0).call("year").due(0, "back", 0).due(9, "row", 0, 1).due(0, "row", 0, 2);
    }

    private static void count() {
        String sentence = "0 PEOPLE .. 5 bytes of THE TEXT. BAD.";
        Run.lived(sentence).within(BAD, "count", new int[] {0, 5});
        Run.of(sentence).within(BAD, "count", new int[] {0, 5});
        Run full = Run.told(sentence, "p1 1;p1 1;p1 1;p1 1;p1 1;p1 1;k0 6;g30;s30;").times(6, "plumbs", 0, 0).times(9, "year");
        full.times(150, "type", 'p').dues("count", 6, 30, 30, 6, 8, 150);
        full.same(6, "count", 0).same(150, "count", 5).same(BAD, "count", 6);
    }

    private static void firstOfTheRefusals() {
        String sentence = "Refused, and nothing changes, the first of these: BAD, STATE, FULL.";
        Run text = Run.of(sentence).times(150, "type", ' ').same(BAD, "type", 256).same(BAD, "type", -1).same(FULL, "type", 255);
        text.same(FULL, "type", 0);
        Run plumbed = Run.of(sentence).times(6, "plumbs", 0, 0).same(BAD, "plumbs", 40, 0).same(BAD, "plumbs", 0, 10);
        plumbed.same(FULL, "plumbs", 39, 9);
        Run holdsNobody = Run.told(sentence, "p1 1;k0 1;").same(BAD, "crosses", 1).same(BAD, "crosses", -1).same(STATE, "crosses", 0);
        holdsNobody.call("draws", 0).same(BAD, "draws", 1).same(BAD, "draws", -1).same(STATE, "draws", 0);
        holdsNobody.same(BAD, "rains", 2).same(BAD, "rains", -1).same(STATE, "rains", 0);
        holdsNobody.same(BAD, "back", 2).same(BAD, "back", -1).same(STATE, "back", 0);
        holdsNobody.same(NONE, "order", 0, 0).same(BAD, "order", 1, 0).same(BAD, "order", 0, 1);
    }

    private static void fiveHundredAndTwelveCalls() {
        Run run = Run.told("An object is used for at most 512 calls", "p1 9;k0 1;g1;s0;");
        for (int i = 0; i < 164; i++) {
            run.due(2, "crosses", 0).due(1, "drops", 0).due(Math.min(8, 2 * i + 2), "count", 4);
        }
        run.due(2, "crosses", 0).due(7, "undo").due(1, "now", 1);
        Check.due("calls that were made", run.calls(), 512);
    }
}
