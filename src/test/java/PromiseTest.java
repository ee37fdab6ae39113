/** The promises of the document, one method each: ordinary inputs, the edges, wrong inputs. */
public final class PromiseTest {
    private static final int BAD = WoolBridge.BAD;
    private static final int STATE = WoolBridge.STATE;
    private static final int FULL = WoolBridge.FULL;
    private static final int NONE = WoolBridge.NONE;
    private static final int NO = WoolBridge.NO;
    private static final int TOO_LONG = -5;
    private static final int[] WRONG = {-1, Integer.MIN_VALUE, Integer.MAX_VALUE};

    public static void main(String[] args) {
        aNewObject();
        objectsStayApart();
        type();
        clear();
        gorge();
        gorgeFaults();
        gorgeReadsAnew();
        person();
        row();
        crosses();
        crossesBeyondForty();
        turnsBack();
        drops();
        draws();
        rains();
        year();
        undo();
        now();
        order();
        lastOne();
        crossings();
        over();
        mend();
        odds();
        plumbs();
        forget();
        drew();
        night();
        mark();
        keep();
        back();
        count();
        trace();
        Check.end();
    }

    private static void due(String call, long got, long want) {
        Check.due(call, got, want);
    }

    private static void aNewObject() {
        due("BAD", WoolBridge.BAD, -1);
        due("STATE", WoolBridge.STATE, -2);
        due("FULL", WoolBridge.FULL, -3);
        due("NONE", WoolBridge.NONE, -9);
        due("NO", WoolBridge.NO, -1000000);
        WoolBridge x = new WoolBridge();
        int[] counts = {0, 6, 6, 0, 0, 0};
        for (int i = 0; i < counts.length; i++) {
            due("new count " + i, x.count(i), counts[i]);
        }
        int[] nows = {0, 0, 0, 0, 9, 0, NONE, 0, NONE};
        for (int i = 0; i < nows.length; i++) {
            due("new now " + i, x.now(i), nows[i]);
        }
        due("new person", x.person(0, 0), BAD);
        due("new row", x.row(0, 0), BAD);
        due("new crosses", x.crosses(0), BAD);
        due("new order", x.order(-1, 0), BAD);
        due("new undo", x.undo(), STATE);
        due("new back", x.back(0), STATE);
        due("new trace", x.trace(), 0);
    }

    private static void objectsStayApart() {
        WoolBridge x = Check.told("p3 4;k0 8;g7;s9;");
        x.year();
        x.rains(1);
        x.plumbs(0, 4);
        x.mark(0, 0);
        x.keep(0);
        x.type('g');
        WoolBridge other = new WoolBridge();
        int[] counts = {0, 6, 6, 0, 0, 0};
        for (int i = 0; i < counts.length; i++) {
            due("another object's count " + i, other.count(i), counts[i]);
        }
        due("another object's year", other.now(0), 0);
        due("another object's rows", other.now(1), 0);
        due("another object's rain", other.now(3), 0);
        due("another object's trace", other.trace(), 0);
        due("another object's image", other.back(0), STATE);
        Check.type(other, "p1 1;p2 2;");
        other.gorge();
        other.keep(0);
        int[] stay = {1, 7, 9, 1, 2, 1};
        for (int i = 0; i < stay.length; i++) {
            due("the first object's count " + i, x.count(i), stay[i]);
        }
        due("the first object's image", x.back(0), 1);
        due("the first object's rows", x.now(1), 8);
        due("the first object's person", x.person(0, 0), 3);
    }

    private static void type() {
        WoolBridge x = new WoolBridge();
        due("type 0", x.type(0), 1);
        due("type 255", x.type(255), 2);
        due("type 256", x.type(256), BAD);
        for (int wrong : WRONG) {
            due("type wrong", x.type(wrong), BAD);
        }
        Check.times(147, () -> x.type(' '));
        due("type the last one", x.type(' '), 150);
        due("type one more", x.type(' '), FULL);
        due("type a wrong one more", x.type(256), BAD);
        due("bytes", x.count(5), 150);
    }

    private static void clear() {
        WoolBridge x = new WoolBridge();
        due("clear of nothing", x.clear(), 0);
        Check.type(x, "p1 1");
        due("clear", x.clear(), 4);
        due("clear again", x.clear(), 0);
        due("type behind clear", x.type('p'), 1);
    }

    private static void gorge() {
        WoolBridge x = new WoolBridge();
        Check.type(x, "  p 9 1 ;p1 9;k 1 20;k0 20;g30;s 0;  ");
        due("gorge", x.gorge(), 6);
        due("text is empty", x.count(5), 0);
        due("people", x.count(0), 2);
        due("gap", x.count(1), 30);
        due("slack", x.count(2), 0);
        due("rows", x.now(1), 40);
        due("first row", x.row(0, 0), 1);
        due("last row", x.row(39, 0), 0);
        due("six people", Check.told("p1 1;p2 1;p3 1;p4 1;p5 1;p6 1;").count(0), 6);
        due("the least numbers", Check.told("p1 1;k0 1;g1;s0;").now(1), 1);
        due("the greatest gap, slack", Check.told("s30;g30;").count(2), 30);
        due("an empty text", new WoolBridge().gorge(), 0);
        WoolBridge typedAnew = new WoolBridge();
        Check.type(typedAnew, "g1234567;");
        typedAnew.clear();
        Check.type(typedAnew, "g1");
        due("what was cleared is not read", typedAnew.gorge(), -12);
    }

    private static void gorgeFaults() {
        fault("p", 1);
        fault("p ", 2);
        fault("p1 1", 4);
        fault("p1 1  ", 6);
        fault(";", 0);
        fault("1;", 0);
        fault(" x;", 1);
        fault("pp1 1;", 0);
        fault("pa1 1;", 0);
        fault("pz1 1;", 0);
        fault("P1 1;", 0);
        fault("p0 1;", 1);
        fault("p10 1;", 1);
        fault("p1 0;", 3);
        fault("p1 10;", 3);
        fault("p01 1;", 1);
        fault("p1 1 1;", 5);
        fault("p1;", 2);
        fault("p1 1 p", 5);
        fault("p1\t1;", 2);
        fault("p1 1,", 4);
        fault("p1 1;p1 1;p1 1;p1 1;p1 1;p1 1; p1 1;", 31);
        fault("k0 1;", 1);
        fault("p1 1;k1 1;", 6);
        fault("p1 1;k0 0;", 8);
        fault("p1 1;k0 21;", 8);
        fault("p1 1;k0 20;k0 10;k0 11;", 20);
        fault("p1 1;k0 20;k0 20;k0 1;", 20);
        fault("k0 1;p1 1;", 1);
        fault("g0;", 1);
        fault("g31;", 1);
        fault("g00;", 1);
        fault("g100;", 1);
        fault("g99999999999999999999;", 1);
        fault("g4294967297;", 1);
        fault("g1;s1;g1;", 6);
        fault("s31;", 1);
        fault("s00;", 1);
        fault("s0;s0;", 3);
        fault("g1;" + (char) 0, 3);
        fault("g1;" + (char) 255, 3);
        fault("g1;;", 3);
        fault("g1;" + " ".repeat(145) + "ss", 148);
        fault("g1;" + " ".repeat(146) + "s", 150);
        fault("g" + " ".repeat(147) + "12", 150);
        fault("g" + "1".repeat(149), 1);
        fault("g1;s5;" + "p".repeat(144), 6);
    }

    private static void fault(String text, int place) {
        WoolBridge x = Check.told("p2 3;k0 4;g4;s5;");
        x.year();
        x.plumbs(0, 0);
        x.keep(1);
        Check.type(x, text);
        due("gorge of '" + text + "'", x.gorge(), -10 - place);
        int[] counts = {1, 4, 5, 1, 1, text.length()};
        for (int i = 0; i < counts.length; i++) {
            due("count " + i + " behind '" + text + "'", x.count(i), counts[i]);
        }
        due("rows behind '" + text + "'", x.now(1), 4);
        due("heavy behind '" + text + "'", x.person(0, 0), 2);
        due("image behind '" + text + "'", x.back(1), 1);
    }

    private static void gorgeReadsAnew() {
        WoolBridge x = Check.told("p1 1;p2 2;k0 6;g5;s9;");
        x.year();
        x.rains(1);
        x.plumbs(0, 1);
        x.keep(0);
        x.keep(1);
        x.mark(0, 0);
        Check.type(x, "p3 4;");
        due("gorge anew", x.gorge(), 1);
        int[] counts = {1, 6, 6, 0, 0, 0};
        for (int i = 0; i < counts.length; i++) {
            due("anew count " + i, x.count(i), counts[i]);
        }
        due("anew year", x.now(0), 0);
        due("anew rows", x.now(1), 0);
        due("anew rain", x.now(3), 0);
        due("anew heavy", x.person(0, 0), 3);
        due("anew image 0", x.back(0), STATE);
        due("anew image 1", x.back(1), STATE);
        due("anew trace", x.trace(), 1);
        due("an empty text tells all, too", x.gorge(), 0);
        due("nobody", x.count(0), 0);
    }

    private static void person() {
        WoolBridge x = Check.told("p3 4;p9 8;k1 2;k0 1;k1 3;");
        int[] first = {3, 4, 1};
        int[] second = {9, 8, 5};
        for (int what = 0; what < 3; what++) {
            due("person 0", x.person(0, what), first[what]);
            due("person 1", x.person(1, what), second[what]);
        }
        due("no such person", x.person(2, 0), BAD);
        due("no such what", x.person(0, 3), BAD);
        for (int wrong : WRONG) {
            due("wrong person", x.person(wrong, 0), BAD);
            due("wrong what", x.person(0, wrong), BAD);
        }
    }

    private static void row() {
        WoolBridge x = Check.told("p3 4;p9 1;k0 1;k1 1;");
        Check.times(7, x::year);
        int[] first = {0, 4, 7, 3};
        int[] second = {1, 1, 7, 0};
        for (int what = 0; what < 4; what++) {
            due("row 0", x.row(0, what), first[what]);
            due("row 1", x.row(1, what), second[what]);
        }
        x.year();
        due("bears not below nothing", x.row(1, 3), 0);
        due("no such row", x.row(2, 0), BAD);
        due("no such what", x.row(0, 4), BAD);
        for (int wrong : WRONG) {
            due("wrong row", x.row(wrong, 0), BAD);
            due("wrong what", x.row(0, wrong), BAD);
        }
    }

    private static void crosses() {
        WoolBridge x = Check.told("p2 7;p4 1;k1 3;g3;s2;");
        due("crosses, too heavy", x.crosses(1), STATE);
        due("nothing to undo", x.count(4), 0);
        due("crosses", x.crosses(0), 5);
        due("his row", x.row(3, 0), 0);
        due("his wool", x.row(4, 1), 7);
        due("new", x.row(4, 2), 0);
        due("crosses at gap and slack", x.crosses(0), 7);
        due("crosses too long", x.crosses(0), STATE);
        due("crosses nobody", x.crosses(2), BAD);
        for (int wrong : WRONG) {
            due("crosses wrong", x.crosses(wrong), BAD);
        }
        WoolBridge tooShort = Check.told("p2 7;k0 3;g4;s2;");
        due("crosses too short", tooShort.crosses(0), STATE);
        WoolBridge rainy = Check.told("p2 7;k0 5;g6;s2;");
        rainy.rains(1);
        due("crosses, stretched by rain", rainy.crosses(0), 7);
        due("odd weight is borne by half cut upwards", Check.told("p3 2;k0 3;g1;").crosses(0), 6);
        WoolBridge old = Check.told("p4 2;k0 3;g1;");
        Check.times(3, old::year);
        due("crosses while a quarter of a year counts for nothing", old.crosses(0), 7);
        old.undo();
        old.year();
        due("crosses a year later", old.crosses(0), STATE);
    }

    private static void crossesBeyondForty() {
        WoolBridge x = Check.told("p9 9;p3 5;k1 20;k0 18;g30;s30;");
        x.year();
        due("crosses to forty", x.crosses(1), 40);
        due("first goes", x.row(0, 0), 1);
        due("crosses beyond", x.crosses(1), 40);
        due("crosses far beyond", x.crosses(0), 40);
        due("share of those who stay", x.person(1, 2), 20 - 1 - 3 - 9 + 3 + 3);
        due("last is new", x.row(39, 2), 0);
        due("one ahead is old", x.row(20, 2), 1);
        WoolBridge first = Check.told("p1 9;p1 8;k0 1;k1 20;k1 19;g30;s30;");
        due("crosses at forty", first.crosses(1), 40);
        due("just the first went", first.person(0, 2), 0);
    }

    private static void turnsBack() {
        WoolBridge x = Check.told("p1 1;p2 2;k0 2;k1 3;k1 4;");
        due("turnsBack", x.turnsBack(), 7);
        due("rows", x.now(1), 2);
        due("turnsBack all", x.turnsBack(), 2);
        due("turnsBack none", x.turnsBack(), STATE);
        due("may be undone", x.count(4), 2);
        x.undo();
        due("undone", x.now(1), 2);
        due("turnsBack one", Check.told("p1 1;p2 2;k0 2;k1 1;").turnsBack(), 1);
    }

    private static void drops() {
        WoolBridge x = Check.told("p1 1;p2 2;p3 3;k0 1;k1 1;k2 1;");
        due("drops none", x.drops(3), BAD);
        due("drops", x.drops(1), 2);
        due("the next one comes up", x.row(1, 0), 2);
        due("with its wool", x.row(1, 1), 3);
        due("drops the last", x.drops(1), 1);
        due("drops the first", x.drops(0), 0);
        due("drops of nothing", x.drops(0), BAD);
        for (int wrong : WRONG) {
            due("drops wrong", x.drops(wrong), BAD);
        }
        due("may be undone", x.count(4), 3);
        WoolBridge full = Check.told("p1 1;p1 2;k0 20;k0 19;k1 1;");
        due("drops the fortieth", full.drops(39), 39);
        due("none is the other one's", full.person(1, 2), 0);
    }

    private static void draws() {
        WoolBridge x = Check.told("p1 2;k0 2;");
        Check.times(4, x::year);
        due("draws", x.draws(1), 0);
        due("thick", x.row(1, 1), 1);
        due("the other one's", x.row(0, 1), 2);
        due("draws again", x.draws(1), 0);
        due("draws no more", x.draws(1), STATE);
        due("draws none", x.draws(2), BAD);
        for (int wrong : WRONG) {
            due("draws wrong", x.draws(wrong), BAD);
        }
        due("may be undone", x.count(4), 6);
    }

    private static void rains() {
        WoolBridge x = Check.told("p1 2;k0 14;");
        due("it is dry", x.rains(0), STATE);
        due("rains", x.rains(1), 16);
        due("it rains", x.rains(1), STATE);
        due("rain", x.now(3), 1);
        due("rain ends", x.rains(0), 14);
        due("rains 2", x.rains(2), BAD);
        for (int wrong : WRONG) {
            due("rains wrong", x.rains(wrong), BAD);
        }
        due("may be undone", x.count(4), 2);
    }

    private static void year() {
        WoolBridge x = Check.told("p1 9;p1 3;k0 1;k1 1;");
        Check.times(3, () -> due("year", x.year(), 6));
        due("year 4", x.year(), 4);
        due("the year", x.now(0), 4);
        Check.times(95, x::year);
        due("old at most", x.row(0, 2), 99);
        due("year 100", x.year(), 0);
        due("no older", x.row(0, 2), 99);
        Check.times(99, x::year);
        due("year 199", x.now(0), 199);
        due("year 200", x.year(), 0);
        due("year 201", x.year(), STATE);
        due("the year stays", x.now(0), 200);
        due("year without rows", new WoolBridge().year(), 9);
        due("year of forty rows", Check.told("p1 4;k0 20;k0 20;").year(), 8);
    }

    private static void undo() {
        WoolBridge x = Check.told("p1 5;k0 6;");
        due("undo none", x.undo(), STATE);
        x.crosses(0);
        x.turnsBack();
        x.undo();
        x.drops(0);
        x.draws(0);
        x.rains(1);
        x.year();
        due("undo year", x.undo(), 4);
        due("not old", x.row(0, 2), 0);
        due("the year", x.now(0), 0);
        due("undo rain", x.undo(), 3);
        due("dry", x.now(3), 0);
        due("undo draws", x.undo(), 2);
        due("thick", x.row(0, 1), 5);
        due("undo drops", x.undo(), 1);
        due("rows", x.now(1), 7);
        due("undo crosses", x.undo(), 0);
        due("rows at first", x.now(1), 6);
        due("undo no more", x.undo(), STATE);
        Check.times(10, x::year);
        due("eight are known", x.count(4), 8);
        Check.times(8, x::undo);
        due("the older ones are lost", x.now(0), 2);
        due("undo beyond eight", x.undo(), STATE);
        x.year();
        due("plumbed ahead of undo", x.plumbs(0, 1), 1);
        x.undo();
        due("plumbed stays", x.count(3), 1);
    }

    private static void now() {
        WoolBridge x = Check.told("p1 5;p7 3;p9 1;p6 1;k0 4;k1 5;g8;s1;");
        int[] first = {0, 9, 9, 0, 6, 0b1001, 4, 0, 1};
        for (int i = 0; i < first.length; i++) {
            due("now " + i, x.now(i), first[i]);
        }
        Check.times(12, x::year);
        x.rains(1);
        int[] then = {12, 9, 10, 1, 0, 0, 4, 5, 1};
        for (int i = 0; i < then.length; i++) {
            due("then " + i, x.now(i), then[i]);
        }
        x.drops(8);
        due("middle of eight", x.now(8), 0);
        due("now 9", x.now(9), BAD);
        for (int wrong : WRONG) {
            due("now wrong", x.now(wrong), BAD);
        }
        due("bears 9 at most", Check.told("p1 5;k0 1;").now(4), 9);
        due("bears 8", Check.told("p1 4;k0 1;").now(4), 8);
        WoolBridge thin = Check.told("p1 1;k0 3;");
        due("thin, the first of several", thin.now(6), 0);
        thin.draws(0);
        due("a hole at the first", thin.now(7), 1);
        due("thin of nines", Check.told("p1 9;k0 3;").now(6), 0);
    }

    private static void order() {
        // Who knits thin wool must come behind those whom it would not bear.
        WoolBridge x = Check.told("p1 1;p4 9;p3 2;k1 4;g4;s8;");
        int[] whoever = {1, 2, 0};
        for (int i = 0; i < 3; i++) {
            due("order whoever " + i, x.order(-1, i), whoever[i]);
        }
        due("order 0 last", x.order(0, 2), 0);
        due("order 1 last", x.order(1, 0), NONE);
        due("order 2 last", x.order(2, 2), NONE);
        due("order no more", x.order(-1, 3), BAD);
        due("order 3 last", x.order(3, 0), BAD);
        due("order -2 last", x.order(-2, 0), BAD);
        for (int wrong : WRONG) {
            due("order wrong i", x.order(-1, wrong), BAD);
        }
        due("nothing is changed", x.now(1), 4);
        due("nothing to be undone", x.count(4), 0);
        WoolBridge same = Check.told("p1 9;p1 9;p1 9;k0 1;g1;s30;");
        int[] middleLast = {0, 2, 1};
        for (int i = 0; i < 3; i++) {
            due("by numbers " + i, same.order(-1, i), i);
            due("by numbers, 1 last " + i, same.order(1, i), middleLast[i]);
        }
        // The two thin rows ahead are pushed out by 1, and only then it holds 0.
        WoolBridge pushed = Check.told("p9 9;p2 9;p1 1;k2 2;k0 20;k0 18;g30;s30;");
        int[] pushing = {1, 0, 2};
        for (int i = 0; i < 3; i++) {
            due("pushed out " + i, pushed.order(-1, i), pushing[i]);
        }
        due("pushed out, 0 last", pushed.order(0, 0), NONE);
        due("pushed out, 1 last", pushed.order(1, 0), NONE);
    }

    private static void lastOne() {
        WoolBridge x = Check.told("p1 1;p4 9;k1 4;g4;s8;");
        due("lastOne", x.lastOne(), 1);
        due("nothing is changed", x.now(1), 4);
        due("lastOne none", Check.told("p1 2;p4 9;k1 4;g4;s8;").lastOne(), NONE);
        due("lastOne the first", Check.told("p1 1;g4;").lastOne(), 0);
        due("lastOne of nobody", new WoolBridge().lastOne(), NONE);
    }

    private static void crossings() {
        WoolBridge x = Check.told("p2 9;p3 1;k0 4;g4;s4;");
        due("crossings till too long", x.crossings(0), 3);
        due("crossings till too thin", x.crossings(1), 1);
        due("nothing is changed", x.now(1), 4);
        due("thirty at most", Check.told("p9 9;k0 20;k0 20;g30;s30;").crossings(0), 30);
        due("none", Check.told("p9 9;").crossings(0), 0);
        due("crossings of nobody", x.crossings(2), BAD);
        for (int wrong : WRONG) {
            due("crossings wrong", x.crossings(wrong), BAD);
        }
    }

    private static void over() {
        WoolBridge x = Check.told("p1 9;p9 9;k0 6;");
        due("over light", x.over(0), 36);
        due("over heavy", x.over(1), 20);
        x.year();
        due("over a year later", x.over(0), 35);
        x.drops(0);
        due("over already", x.over(0), 0);
        due("over of nobody", x.over(2), BAD);
        for (int wrong : WRONG) {
            due("over wrong", x.over(wrong), BAD);
        }
        WoolBridge late = Check.told("p1 9;k0 1;k0 5;g1;");
        Check.times(196, late::year);
        late.turnsBack();
        due("late without rows", late.over(0), 0);
    }

    private static void mend() {
        WoolBridge x = Check.told("p9 9;p5 2;k1 3;g5;s1;");
        due("mend how much", x.mend(0, 0), 3 * 3 + 2 * 5);
        due("mend how many", x.mend(0, 1), 2);
        due("mend the light one, how much", x.mend(1, 0), 3 * 1 + 2 * 3);
        Check.times(12, x::year);
        due("mend the rotten below nothing", x.mend(1, 0), 3 * 4 + 2 * 3);
        x.rains(1);
        due("mend in rain", x.mend(0, 1), 2);
        due("mend 2", x.mend(0, 2), BAD);
        due("mend nobody", x.mend(2, 0), BAD);
        for (int wrong : WRONG) {
            due("mend wrong person", x.mend(wrong, 0), BAD);
            due("mend wrong what", x.mend(0, wrong), BAD);
        }
        WoolBridge tooLong = Check.told("p9 9;k0 5;g3;s1;");
        due("mend too long", tooLong.mend(0, 0), TOO_LONG);
        due("mend too long, rows", tooLong.mend(0, 1), TOO_LONG);
        WoolBridge would = Check.told("p9 9;k0 3;g5;s0;");
        due("mend dry", would.mend(0, 1), 2);
        would.rains(1);
        due("mend would be too long", would.mend(0, 1), TOO_LONG);
        due("mend none", Check.told("p9 9;k0 5;g5;s0;").mend(0, 0), 0);
        due("mend from nothing", Check.told("p9 9;g30;").mend(0, 0), 150);
        due("mend for an even weight", Check.told("p8 9;g30;").mend(0, 0), 120);
    }

    private static void odds() {
        // Dry it is 5 long, in rain 6.
        WoolBridge dryOnly = Check.told("p8 5;k0 5;g5;s0;");
        due("odds upper", dryOnly.odds(0, 4, 3, 0), 27);
        due("odds lower", dryOnly.odds(0, 4, 3, 1), 125);
        due("odds of no years", dryOnly.odds(0, 10, 0, 0), 1);
        due("odds of no years, lower", dryOnly.odds(0, 10, 0, 1), 1);
        due("odds of rain always", dryOnly.odds(0, 10, 1, 0), 0);
        due("odds of rain always, lower", dryOnly.odds(0, 10, 1, 1), 1);
        due("odds of rain never", dryOnly.odds(0, 0, 6, 0), 1);
        due("odds of six years", dryOnly.odds(0, 1, 6, 0), 531441);
        due("odds of six years, lower", dryOnly.odds(0, 1, 6, 1), 1000000);
        dryOnly.rains(1);
        due("odds whatever is now", dryOnly.odds(0, 5, 2, 1), 4);
        WoolBridge rainOnly = Check.told("p8 5;k0 5;g6;s0;");
        due("odds in rain", rainOnly.odds(0, 4, 2, 0), 4);
        due("odds in rain, lower", rainOnly.odds(0, 4, 2, 1), 25);
        Check.times(3, rainOnly::year);
        due("odds while it bears", rainOnly.odds(0, 4, 4, 1), 625);
        due("odds when it rots", rainOnly.odds(0, 4, 5, 0), 0);
        due("odds nobody", rainOnly.odds(1, 4, 5, 0), BAD);
        due("odds x 11", rainOnly.odds(0, 11, 5, 0), BAD);
        due("odds n 7", rainOnly.odds(0, 4, 7, 0), BAD);
        due("odds what 2", rainOnly.odds(0, 4, 5, 2), BAD);
        for (int wrong : WRONG) {
            due("odds wrong p", rainOnly.odds(wrong, 4, 5, 0), BAD);
            due("odds wrong x", rainOnly.odds(0, wrong, 5, 0), BAD);
            due("odds wrong n", rainOnly.odds(0, 4, wrong, 0), BAD);
            due("odds wrong what", rainOnly.odds(0, 4, 5, wrong), BAD);
        }
    }

    private static void plumbs() {
        WoolBridge x = new WoolBridge();
        due("plumbs", x.plumbs(0, 0), 1);
        due("plumbs the last", x.plumbs(39, 9), 2);
        due("plumbs row 40", x.plumbs(40, 0), BAD);
        due("plumbs 10", x.plumbs(0, 10), BAD);
        for (int wrong : WRONG) {
            due("plumbs wrong row", x.plumbs(wrong, 0), BAD);
            due("plumbs wrong bears", x.plumbs(0, wrong), BAD);
        }
        Check.times(3, () -> x.plumbs(0, 0));
        due("plumbs the sixth", x.plumbs(0, 0), 6);
        due("plumbs the seventh", x.plumbs(0, 0), FULL);
        due("plumbs a wrong seventh", x.plumbs(40, 0), BAD);
        due("plumbed", x.count(3), 6);
    }

    private static void forget() {
        WoolBridge x = Check.told("p1 1;k0 1;");
        due("forget nothing", x.forget(), 0);
        x.plumbs(0, 9);
        x.plumbs(1, 1);
        due("drew", x.drew(0), 0);
        due("forget", x.forget(), 2);
        due("forgotten", x.count(3), 0);
        due("drew now", x.drew(0), 9);
        due("plumbs anew", x.plumbs(0, 0), 1);
    }

    private static void drew() {
        WoolBridge x = Check.told("p1 5;k0 3;");
        due("drew, nothing plumbed", x.drew(0), 27);
        due("drew the first, nothing plumbed", x.drew(1), 1);
        x.plumbs(1, 3);
        due("drew two", x.drew(0), 1);
        due("drew two, the first", x.drew(1), 12);
        x.plumbs(2, 5);
        due("drew and others are whole", x.drew(0), 1);
        x.plumbs(0, 4);
        due("drew of two rows", x.drew(0), 0);
        due("drew of two rows, the first", x.drew(1), NONE);
        x.forget();
        x.plumbs(2, 0);
        due("drew down to nothing", x.drew(0), 5);
        due("drew down to nothing, the first", x.drew(1), 25);
        x.plumbs(3, 0);
        due("drew, a row that is not", x.drew(0), 0);
        due("drew 2", x.drew(2), BAD);
        for (int wrong : WRONG) {
            due("drew wrong", x.drew(wrong), BAD);
        }
        due("nothing is changed", x.row(2, 1), 5);
        x.forget();
        Check.times(4, x::year);
        x.plumbs(0, 3);
        due("drew of old rows", x.drew(1), 1);
        x.forget();
        x.undo();
        x.plumbs(0, 4);
        due("drew of rows three years old", x.drew(1), 1);
    }

    private static void night() {
        WoolBridge x = Check.told("p1 5;k0 3;g30;");
        due("night, nothing plumbed", x.night(0), 81);
        due("night the least, nothing plumbed", x.night(1), 11);
        x.plumbs(5, 4);
        due("night", x.night(0), 7);
        due("night the least", x.night(1), 34);
        x.plumbs(0, 5);
        due("night, what was there is so", x.night(0), 7);
        x.plumbs(1, 4);
        due("night, what was there is not so", x.night(0), 0);
        due("night none", x.night(1), NONE);
        x.forget();
        x.plumbs(12, 0);
        due("night, a row that is not", x.night(0), 0);
        due("night 2", x.night(2), BAD);
        for (int wrong : WRONG) {
            due("night wrong", x.night(wrong), BAD);
        }
        due("nothing is changed", x.now(1), 3);
        WoolBridge full = Check.told("p1 5;p1 2;k1 3;k0 17;k0 20;");
        full.plumbs(0, 5);
        due("night, three rows pushed out", full.night(1), 31);
        full.plumbs(37, 8);
        due("night, new rows from 37 on", full.night(0), 7);
        due("night, new rows from 37 on, the least", full.night(1), 38);
    }

    private static void mark() {
        WoolBridge x = Check.told("p7 6;p8 3;k0 1;k1 1;");
        Check.times(9, x::year);
        int[] first = {6, 10, -3, 20, 4, 15};
        int[] second = {3, 4, -6, 8, 2, 12};
        for (int kind = 0; kind < 6; kind++) {
            due("mark of row 0 as " + kind, x.mark(kind, 0), first[kind]);
            due("mark of row 1 as " + kind, x.mark(kind, 1), second[kind]);
        }
        due("mark 6", x.mark(6, 0), NO);
        due("mark of row 2", x.mark(0, 2), NO);
        for (int wrong : WRONG) {
            due("mark wrong kind", x.mark(wrong, 0), NO);
            due("mark wrong row", x.mark(0, wrong), NO);
        }
    }

    private static void keep() {
        WoolBridge x = Check.told("p1 5;k0 6;");
        x.year();
        due("keep", x.keep(0), 1);
        x.year();
        due("keep the other", x.keep(1), 2);
        due("keep 2", x.keep(2), BAD);
        for (int wrong : WRONG) {
            due("keep wrong", x.keep(wrong), BAD);
        }
        due("kept 0", x.back(0), 1);
        due("kept 1", x.back(1), 2);
        x.year();
        due("keep anew", x.keep(0), 3);
        due("kept anew", x.back(0), 3);
        due("keep is not undone", x.count(4), 3);
    }

    private static void back() {
        WoolBridge x = Check.told("p1 5;k0 6;");
        x.year();
        x.draws(2);
        x.rains(1);
        x.keep(0);
        due("back to none", x.back(1), STATE);
        due("back 2", x.back(2), BAD);
        for (int wrong : WRONG) {
            due("back wrong", x.back(wrong), BAD);
        }
        x.plumbs(0, 5);
        x.mark(0, 0);
        x.rains(0);
        Check.times(12, x::year);
        x.turnsBack();
        due("back", x.back(0), 1);
        due("rows", x.now(1), 6);
        due("rain", x.now(3), 1);
        due("thick", x.row(2, 1), 4);
        due("old", x.row(5, 2), 1);
        due("may be undone", x.count(4), 3);
        due("plumbed stays", x.count(3), 1);
        due("trace stays", x.trace(), 1);
        due("undo behind back", x.undo(), 2);
        due("dry again", x.now(3), 0);
        due("undo behind back again", x.undo(), 1);
        due("thick again", x.row(2, 1), 5);
        due("back again", x.back(0), 1);
        due("rain again", x.now(3), 1);
        WoolBridge many = Check.told("p1 5;k0 6;");
        Check.times(9, many::year);
        many.keep(1);
        Check.times(20, many::year);
        due("back to year 9", many.back(1), 9);
        for (int left = 7; left >= 0; left--) {
            due("undo behind back", many.undo(), left);
            due("the year then", many.now(0), left + 1);
        }
    }

    private static void count() {
        WoolBridge x = Check.told("p1 5;p2 5;p3 5;k0 6;g5;s9;");
        x.year();
        x.year();
        x.plumbs(0, 0);
        Check.type(x, "p1 1");
        int[] counts = {3, 5, 9, 1, 2, 4};
        for (int i = 0; i < counts.length; i++) {
            due("count " + i, x.count(i), counts[i]);
        }
        due("count 6", x.count(6), BAD);
        for (int wrong : WRONG) {
            due("count wrong", x.count(wrong), BAD);
        }
    }

    private static void trace() {
        int[] dues = {1, 11, 101, 1011, 10101, 100001};
        WoolBridge x = Check.told("p7 6;k0 1;");
        long sum = 0;
        for (int kind = 0; kind < 6; kind++) {
            x.mark(kind, 0);
            sum += dues[kind];
            due("trace of kind " + kind, x.trace(), sum);
        }
        x.mark(6, 0);
        x.mark(5, 1);
        x.row(0, 3);
        x.year();
        x.undo();
        due("trace is of mark alone", x.trace(), sum);
    }
}
