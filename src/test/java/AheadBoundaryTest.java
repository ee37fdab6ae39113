/** The boundaries of what is asked from now on and of what was plumbed: section 3 of the document, promises 15 to 24. */
public final class AheadBoundaryTest {
    private static final int BAD = WoolBridge.BAD;
    private static final int FULL = WoolBridge.FULL;
    private static final int NONE = WoolBridge.NONE;
    private static final int TOO_LONG = -5;
    private static final String SIX = "p1 9;p1 9;p1 9;p1 9;p1 9;p1 9;";
    private static final int[] ZERO_ONE = {0, 1};

    public static void main(String[] args) {
        order();
        orderByNumbers();
        orderHeld();
        fortyRowsPushedOut();
        lastOne();
        crossings();
        over();
        overOfEach();
        mendRows();
        mendThick();
        mendTooLong();
        mend();
        odds();
        oddsBehindEach();
        oddsInLeastTerms();
        plumbs();
        forget();
        drew();
        drewThreads();
        drewNone();
        night();
        nightTwos();
        nightAtForty();
        nightNone();
        nothingIsChanged();
        Check.end();
    }

    private static void order() {
        String sentence = "BAD (last -1 or a PERSON; i 0 .. PEOPLE less 1)";
        Run.lived(sentence).within(BAD, "order", new int[] {-1, 1}, new int[] {0, 1});
        Run.told(sentence, SIX + "k0 6;").within(BAD, "order", new int[] {-1, 5}, new int[] {0, 5});
        Run.told(sentence, "p1 9;k0 6;").within(BAD, "order", new int[] {-1, 0}, new int[] {0, 0});
        Run nobody = Run.of(sentence).same(BAD, "order", -1, 0).same(BAD, "order", 0, 0).same(BAD, "order", -1, -1);
        nobody.same(BAD, "order", -2, 0);
    }

    private static void orderByNumbers() {
        String sentence = "the first of all orders (by numbers): who is the i-th";
        Run run = Run.told(sentence, SIX + "k0 6;");
        for (int last = -1; last < 6; last++) {
            for (int i = 0; i < 5; i++) {
                run.due(last == -1 || i < last ? i : i + 1, "order", last, i);
            }
            run.due(last == -1 ? 5 : last, "order", last, 5);
        }
        Run.told(sentence, "p1 9;k0 6;").due(0, "order", -1, 0).due(0, "order", 0, 0);
        // Only one order will do: each comes before the thin wool of the next one.
        Run only = Run.told(sentence, "p1 1;p3 2;p5 3;p7 4;p9 5;p9 9;k5 10;g10;s30;");
        int[] heavyFirst = {4, 5, 3, 2, 1, 0};
        for (int i = 0; i < 6; i++) {
            only.due(heavyFirst[i], "order", -1, i).due(heavyFirst[i], "order", 0, i).due(NONE, "order", 1, i);
        }
    }

    private static void orderHeld() {
        String sentence = "all orders in which it HOLDS each; NONE";
        Run.told(sentence, "p1 9;p1 9;p1 9;k0 1;g1;s2;").due(0, "order", -1, 0).due(2, "order", -1, 2);
        Run.told(sentence, "p1 9;p1 9;p1 9;k0 1;g1;s1;").due(NONE, "order", -1, 0).due(NONE, "order", -1, 2);
        Run.told(sentence, "p1 9;k0 5;").same(NONE, "order", -1, 0).same(NONE, "order", 0, 0);
        Run.told(sentence, "p1 9;k0 6;g6;s0;").same(0, "order", -1, 0);
        Run.told(sentence, "p1 9;").same(NONE, "order", 0, 0);
        // The heavy one's nine rows would be too many for who comes behind him.
        Run heavyLast = Run.told(sentence, "p9 9;p1 9;k0 1;g1;s8;").due(1, "order", -1, 0).due(0, "order", -1, 1);
        heavyLast.due(1, "order", 0, 0).due(NONE, "order", 1, 0);
        Run.told(sentence, "p9 9;p1 9;k0 1;g1;s9;").due(0, "order", -1, 0).due(0, "order", 1, 0);
        // At 40 rows the thin first one must be pushed out before it holds the heavy one.
        Run pushed = Run.told(sentence, "p9 9;p2 9;p2 1;k2 1;k0 20;k0 19;g30;s30;").due(1, "order", -1, 0);
        pushed.due(0, "order", -1, 1).due(2, "order", -1, 2).due(NONE, "order", 1, 0).due(NONE, "order", 0, 2);
        Run rain = Run.told(sentence, "p1 9;k0 20;k0 20;g30;s18;").call("rains", 1).due(0, "order", -1, 0);
        rain.read("p1 9;k0 20;k0 20;g30;s17;").due(0, "order", -1, 0).call("rains", 1).due(NONE, "order", -1, 0);
    }

    /** The last of the 40 rows is too thin for the heavy one; five times eight rows push it out, one row less does not. */
    private static void fortyRowsPushedOut() {
        String sentence = "the first ROWS go, if there would be more than 40 (all that were there)";
        Run gone = Run.told(sentence, "p8 9;p8 9;p8 9;p8 9;p8 9;p9 9;k0 20;k0 20;g30;s30;").times(5, "draws", 39);
        for (int i = 0; i < 6; i++) {
            gone.due(i, "order", -1, i).due(i, "order", 5, i).due(NONE, "order", 0, i);
        }
        gone.same(NONE, "lastOne").same(30, "crossings", 0).same(0, "crossings", 5);
        Run stays = Run.told(sentence, "p8 9;p8 9;p8 9;p8 9;p7 9;p9 9;k0 20;k0 20;g30;s30;").times(5, "draws", 39);
        stays.same(NONE, "order", -1, 0).same(NONE, "order", 5, 0).same(5, "lastOne");
    }

    private static void lastOne() {
        String sentence = "LAST ONE: the first PERSON whom it does not HOLD as it is then; NONE: it HOLDS all.";
        Run.of(sentence).same(NONE, "lastOne");
        Run.told(sentence, "p1 9;p1 9;p1 9;k0 1;g1;s2;").same(NONE, "lastOne");
        Run.told(sentence, "p1 9;p1 9;p1 9;k0 1;g1;s1;").same(2, "lastOne");
        Run.told(sentence, "p1 9;p1 9;p1 9;k0 1;g1;s0;").same(1, "lastOne");
        Run.told(sentence, "p1 9;p1 9;p1 9;k0 1;g2;s9;").same(0, "lastOne");
        Run.told(sentence, SIX + "k0 6;g6;s5;").same(NONE, "lastOne");
        Run.told(sentence, SIX + "k0 6;g6;s4;").same(5, "lastOne");
        Run.told(sentence, "p1 4;p8 9;p9 9;k1 6;").same(2, "lastOne");
        Run.told(sentence, "p1 3;p8 9;p9 9;k1 6;").same(1, "lastOne");
        Run.told(sentence, "p1 1;p9 9;p9 9;k0 2;k1 20;k1 18;g30;s30;").same(1, "lastOne");
        Run.told(sentence, "p2 9;p9 9;p1 1;k2 2;k1 20;k1 18;g30;s30;").same(NONE, "lastOne");
    }

    private static void crossings() {
        String sentence = "CROSSINGS of a PERSON alone: how often he can CROSS, one behind another (30 at most).";
        Run.told(sentence, "p1 9;k0 1;g1;s0;").same(1, "crossings", 0);
        Run.told(sentence, "p1 9;k0 1;g1;s28;").same(29, "crossings", 0);
        Run.told(sentence, "p1 9;k0 1;g1;s29;").same(30, "crossings", 0);
        Run.told(sentence, "p1 9;k0 1;g1;s30;").same(30, "crossings", 0);
        Run.told(sentence, "p9 9;k0 20;k0 20;g30;s30;").same(30, "crossings", 0);
        Run.told(sentence, "p9 9;k0 20;k0 20;g30;s9;").same(0, "crossings", 0);
        Run.told(sentence, "p1 9;").same(0, "crossings", 0);
        Run.told(sentence, "p9 4;p9 9;k1 6;g6;s30;").same(1, "crossings", 0).same(4, "crossings", 1);
        Run.lived(sentence).within(BAD, "crossings", ZERO_ONE);
        Run.told(sentence, SIX).within(BAD, "crossings", new int[] {0, 5});
    }

    private static void over() {
        String sentence = "OVER for a PERSON: in how many YEARS (0 .. 60) it does not HOLD him any more";
        Run run = Run.told(sentence, "p9 5;p1 9;k0 6;").same(4, "over", 0).call("year").due(3, "over", 0);
        run.call("year").call("year").due(1, "over", 0).call("year").due(0, "over", 0).call("year").due(0, "over", 0);
        Run.told(sentence, "p1 9;k0 5;").same(0, "over", 0);
        Run.told(sentence, "p1 9;k0 13;").same(0, "over", 0);
        Run.told(sentence, "p1 9;").same(0, "over", 0);
        Run.told(sentence, "p1 9;k0 12;").same(36, "over", 0);
        Run.told(sentence, "p1 9;k0 6;").times(99, "year").due(0, "over", 0).times(101, "year").due(0, "over", 0);
        Run rain = Run.told(sentence, "p1 9;k0 5;").call("rains", 1).due(36, "over", 0);
        rain.read("p1 9;k0 11;").call("rains", 1).due(0, "over", 0);
        // The oldest row breaks first, wherever it is.
        Run.told(sentence, "p1 9;k0 6;").times(7, "year").call("crosses", 0).due(29, "over", 0).call("drops", 0).due(29, "over", 0);
        Run.lived(sentence).within(BAD, "over", ZERO_ONE);
        Run.told(sentence, SIX).within(BAD, "over", new int[] {0, 5});
    }

    private static void overOfEach() {
        for (int heavy = 1; heavy <= 9; heavy++) {
            for (int thick = 1; thick <= 9; thick++) {
                int spare = thick - (heavy + 1) / 2;
                Run run = Run.told("OVER for a PERSON", "p" + heavy + " " + thick + ";k0 6;");
                run.due(Math.max(0, 4 * (spare + 1)), "over", 0);
            }
        }
    }

    private static void mendRows() {
        String sentence = "how many ROWS more there must be at least so that it is LONG as GAP (dry or in RAIN, as it is)";
        Run.told(sentence, "p1 9;k0 5;g6;s0;").same(1, "mend", 0, 1).same(1, "mend", 0, 0);
        Run.told(sentence, "p1 9;k0 6;g6;s0;").same(0, "mend", 0, 1).same(0, "mend", 0, 0);
        Run.told(sentence, "p1 9;k0 7;g6;s1;").same(0, "mend", 0, 1);
        Run.told(sentence, "p9 9;g30;s0;").same(30, "mend", 0, 1).same(150, "mend", 0, 0);
        Run.told(sentence, "p9 9;g1;s0;").same(1, "mend", 0, 1).same(5, "mend", 0, 0);
        Run.told(sentence, "p9 9;g30;s0;").call("rains", 1).same(25, "mend", 0, 1).same(125, "mend", 0, 0);
        Run.told(sentence, "p9 9;k0 4;g6;s0;").call("rains", 1).same(1, "mend", 0, 1);
        Run.told(sentence, "p9 9;k0 4;g7;s0;").call("rains", 1).same(2, "mend", 0, 1);
        Run.told(sentence, "p9 9;k0 4;g4;s0;").call("rains", 1).same(0, "mend", 0, 1);
    }

    private static void mendThick() {
        String sentence = "how THICK ROWS must be made more (each) so that all bear him";
        for (int heavy = 1; heavy <= 9; heavy++) {
            int need = (heavy + 1) / 2;
            Run run = Run.told(sentence, "p" + heavy + " 3;k0 6;g7;");
            run.due(6 * Math.max(0, need - 3) + need, "mend", 0, 0).due(1, "mend", 0, 1);
        }
        Run old = Run.told(sentence, "p9 5;k0 6;").same(0, "mend", 0, 0).times(3, "year").due(0, "mend", 0, 0);
        old.call("year").due(6, "mend", 0, 0).call("draws", 0).due(7, "mend", 0, 0);
        Run rotten = Run.told(sentence, "p2 1;k0 6;").times(7, "year").due(6, "mend", 0, 0);
        rotten.call("year").due(12, "mend", 0, 0).times(91, "year").due(144, "mend", 0, 0).call("year").due(144, "mend", 0, 0);
        Run some = Run.told(sentence, "p9 4;p9 9;k0 2;k1 4;").same(2, "mend", 0, 0).same(2, "mend", 1, 0);
        some.call("drops", 0).due(1 + 5, "mend", 0, 0);
        Run.told(sentence, "p9 1;k0 20;k0 20;g30;s10;").same(160, "mend", 0, 0);
    }

    private static void mendTooLong() {
        String sentence = "-5: it is too LONG, or would be then";
        Run.told(sentence, "p1 9;k0 8;g6;s2;").same(0, "mend", 0, 0).same(0, "mend", 0, 1);
        Run.told(sentence, "p1 9;k0 9;g6;s2;").same(TOO_LONG, "mend", 0, 0).same(TOO_LONG, "mend", 0, 1);
        Run.told(sentence, "p1 9;k0 20;k0 20;g10;s30;").same(0, "mend", 0, 0);
        Run.told(sentence, "p1 9;k0 20;k0 20;g10;s29;").same(TOO_LONG, "mend", 0, 0);
        Run.told(sentence, "p1 9;k0 20;k0 20;g30;s18;").call("rains", 1).same(0, "mend", 0, 0);
        Run.told(sentence, "p1 9;k0 20;k0 20;g30;s17;").call("rains", 1).same(TOO_LONG, "mend", 0, 0);
        // In rain the fifth row makes it 6 long, so that it is never just 5.
        Run would = Run.told(sentence, "p1 9;k0 4;g5;s0;").due(1, "mend", 0, 1).call("rains", 1);
        would.same(TOO_LONG, "mend", 0, 0).same(TOO_LONG, "mend", 0, 1);
        Run.told(sentence, "p1 9;k0 4;g5;s1;").call("rains", 1).same(1, "mend", 0, 1);
        Run.told(sentence, "p1 9;g29;s0;").call("rains", 1).same(TOO_LONG, "mend", 0, 1);
        Run.told(sentence, "p1 9;g28;s0;").call("rains", 1).same(24, "mend", 0, 1);
    }

    private static void mend() {
        String sentence = "MEND: how much (what = 0), how many ROWS more (1); -5. BAD.";
        Run.lived(sentence).within(BAD, "mend", ZERO_ONE, ZERO_ONE);
        Run.told(sentence, SIX).within(BAD, "mend", new int[] {0, 5}, ZERO_ONE);
        Run tooLong = Run.told(sentence, "p1 9;k0 13;").same(TOO_LONG, "mend", 0, 0).same(BAD, "mend", 1, 0);
        tooLong.same(BAD, "mend", 0, 2).same(BAD, "mend", 0, -1);
    }

    private static void odds() {
        String sentence = "ODDS (PERSON, x 0 .. 10, n 0 .. 6)";
        Run.lived(sentence).within(BAD, "odds", ZERO_ONE, new int[] {0, 10}, new int[] {0, 6}, ZERO_ONE);
        Run.told(sentence, SIX).within(BAD, "odds", new int[] {0, 5}, new int[] {0, 10}, new int[] {0, 6}, ZERO_ONE);
        // Dry it is 5 long, in rain 6: it holds in one of the two alone.
        for (int x = 0; x <= 10; x++) {
            Run dry = Run.told(sentence, "p1 9;k0 5;g5;s0;");
            Run wet = Run.told(sentence, "p1 9;k0 5;g6;s0;");
            for (int n = 0; n <= 6; n++) {
                fraction(dry, x, n, power(10 - x, n), power(10, n));
                fraction(wet, x, n, power(x, n), power(10, n));
            }
        }
    }

    private static int power(int base, int exponent) {
        return exponent == 0 ? 1 : base * power(base, exponent - 1);
    }

    private static void fraction(Run run, int x, int n, int upper, int lower) {
        int common = lower;
        while (upper % common != 0 || lower % common != 0) {
            common--;
        }
        run.due(upper / common, "odds", 0, x, n, 0).due(lower / common, "odds", 0, x, n, 1);
    }

    private static void oddsBehindEach() {
        String sentence = "else dry (whatever is NOW): that behind each of them it HOLDS him";
        Run wetNow = Run.told(sentence, "p1 9;k0 5;g5;s0;").call("rains", 1);
        wetNow.same(3, "odds", 0, 4, 1, 0).same(5, "odds", 0, 4, 1, 1);
        Run last = Run.told(sentence, "p9 5;k0 6;").same(1, "odds", 0, 5, 3, 0).same(1, "odds", 0, 5, 3, 1);
        last.same(0, "odds", 0, 5, 4, 0).same(1, "odds", 0, 5, 4, 1).same(0, "odds", 0, 5, 6, 0);
        last.times(3, "year").due(0, "odds", 0, 5, 1, 0).due(1, "odds", 0, 5, 0, 0);
        String none = "n 0: nothing is asked, so it is sure";
        Run.told(none, "p1 9;").same(1, "odds", 0, 0, 0, 0).same(1, "odds", 0, 10, 0, 1).same(0, "odds", 0, 0, 1, 0);
        Run.told(none, "p9 1;k0 6;").same(1, "odds", 0, 5, 0, 0).same(0, "odds", 0, 5, 1, 0);
        Run.told(none, "p1 9;k0 6;").times(200, "year").due(1, "odds", 0, 5, 0, 0).due(0, "odds", 0, 5, 1, 0);
    }

    private static void oddsInLeastTerms() {
        String sentence = "upper (what = 0), lower number (1), in least terms";
        Run.told(sentence, "p1 9;k0 5;g5;s0;").same(1, "odds", 0, 5, 6, 0).same(64, "odds", 0, 5, 6, 1)
            .same(531441, "odds", 0, 1, 6, 0).same(1000000, "odds", 0, 1, 6, 1)
            .same(1, "odds", 0, 9, 6, 0).same(1000000, "odds", 0, 9, 6, 1)
            .same(0, "odds", 0, 10, 6, 0).same(1, "odds", 0, 10, 6, 1)
            .same(1, "odds", 0, 0, 6, 0).same(1, "odds", 0, 0, 6, 1)
            .same(1, "odds", 0, 8, 6, 0).same(15625, "odds", 0, 8, 6, 1);
    }

    private static void plumbs() {
        String sentence = "PLUMBED (a ROW 0 .. 39): how much there is. BAD; FULL.";
        Run.of(sentence).within(BAD, "plumbs", new int[] {0, 39}, new int[] {0, 9});
        Run.lived(sentence).within(BAD, "plumbs", new int[] {0, 39}, new int[] {0, 9});
        String six = "PLUMBED (6 at most): a ROW BEARS so much (0 .. 9).";
        Run run = Run.of(six).due(1, "plumbs", 0, 0).due(2, "plumbs", 39, 9).due(3, "plumbs", 0, 0);
        run.due(4, "plumbs", 1, 1).due(5, "plumbs", 1, 2).due(6, "plumbs", 39, 0).due(6, "count", 3);
        run.same(FULL, "plumbs", 0, 0).due(FULL, "plumbs", 0, 0).due(6, "count", 3);
        run.same(BAD, "plumbs", 40, 0).same(BAD, "plumbs", -1, 0).same(BAD, "plumbs", 0, 10).same(BAD, "plumbs", 0, -1);
        run.due(6, "forget").due(1, "plumbs", 39, 9);
        Run kept = Run.told(six, "p1 5;k0 2;").times(6, "plumbs", 0, 4).same(FULL, "plumbs", 1, 9).same(BAD, "plumbs", 0, 10);
        kept.due(FULL, "plumbs", 1, 9).due(1, "drew", 0).due(1, "drew", 1);
    }

    private static void forget() {
        String sentence = "Nothing was PLUMBED: how much there was.";
        Run.of(sentence).same(0, "forget").due(0, "forget").due(1, "plumbs", 0, 0).due(1, "forget").due(0, "forget");
        Run full = Run.told(sentence, "p1 1;k0 1;").times(6, "plumbs", 0, 9).due(0, "drew", 0).due(6, "forget");
        full.due(0, "count", 3).due(9, "drew", 0).due(81, "night", 0).due(1, "plumbs", 0, 0);
    }

    private static void drew() {
        String sentence = "DREW: how many (what = 0), the first (1; NONE). BAD.";
        Run.lived(sentence).within(BAD, "drew", ZERO_ONE);
        Run.of(sentence).within(BAD, "drew", ZERO_ONE);
        Run.of(sentence).same(0, "drew", 0).same(NONE, "drew", 1);
        Run.told(sentence, "p1 1;k0 1;").same(9, "drew", 0).same(1, "drew", 1);
        Run.told(sentence, "p1 1;k0 20;k0 20;").same(360, "drew", 0).same(1, "drew", 1);
    }

    private static void drewThreads() {
        String sentence = "ROWS and n (1 .. 9); the first (10 times the ROW and n)";
        Run one = Run.told(sentence, "p1 9;k0 20;k0 20;").call("plumbs", 39, 8).due(1, "drew", 0).due(391, "drew", 1);
        one.call("forget").call("plumbs", 39, 0).due(1, "drew", 0).due(399, "drew", 1);
        one.call("forget").call("plumbs", 0, 0).due(1, "drew", 0).due(9, "drew", 1);
        one.call("forget").call("plumbs", 0, 8).due(1, "drew", 0).due(1, "drew", 1);
        one.call("forget").call("plumbs", 0, 9).due(39 * 9, "drew", 0).due(11, "drew", 1);
        Run old = Run.told(sentence, "p1 5;k0 2;").times(3, "year").call("plumbs", 0, 4).due(1, "drew", 0).due(1, "drew", 1);
        old.call("year").due(9, "drew", 0).due(11, "drew", 1).call("plumbs", 1, 3).due(1, "drew", 0).due(11, "drew", 1);
        String least = "n threads DRAWN (0 at least)";
        Run.told(least, "p1 5;k0 2;").call("plumbs", 1, 0).due(5, "drew", 0).due(15, "drew", 1);
        Run.told(least, "p1 1;k0 2;").call("plumbs", 1, 0).due(9, "drew", 0).due(11, "drew", 1);
        Run.told(least, "p1 1;k0 2;").call("draws", 0).call("plumbs", 0, 0).due(18, "drew", 0).due(1, "drew", 1);
        Run rotten = Run.told(least, "p1 3;k0 2;").times(8, "year").call("plumbs", 1, 1).due(9, "drew", 0).due(1, "drew", 1);
        rotten.call("forget").call("plumbs", 1, 0).due(9, "drew", 0).due(11, "drew", 1);
        Run.told(least, "p1 3;k0 2;").times(16, "year").call("plumbs", 1, 0).due(18, "drew", 0).due(1, "drew", 1);
    }

    private static void drewNone() {
        String sentence = "all that was PLUMBED is so: how many; NONE";
        Run run = Run.told(sentence, "p1 5;k0 2;").call("plumbs", 0, 4).due(1, "drew", 0).due(1, "drew", 1);
        run.call("plumbs", 0, 4).due(1, "drew", 0).call("plumbs", 1, 5).due(1, "drew", 0);
        run.call("plumbs", 1, 4).same(0, "drew", 0).same(NONE, "drew", 1);
        Run.told(sentence, "p1 5;k0 2;").call("plumbs", 0, 6).same(0, "drew", 0).same(NONE, "drew", 1);
        String last = "the sixth counts as the first does";
        Run six = Run.told(last, "p1 5;k0 2;").times(5, "plumbs", 0, 4).due(1, "drew", 0).call("plumbs", 1, 9).due(0, "drew", 0);
        six.due(NONE, "drew", 1).due(0, "night", 0);
        Run.told(last, "p1 5;k0 2;").call("plumbs", 1, 9).times(5, "plumbs", 0, 4).due(0, "drew", 0);
        String notThere = "A ROW that there is not BEARS nothing that was PLUMBED.";
        Run.told(notThere, "p1 1;k0 2;").call("plumbs", 1, 0).due(9, "drew", 0);
        Run.told(notThere, "p1 1;k0 2;").call("plumbs", 2, 0).same(0, "drew", 0).same(NONE, "drew", 1);
        Run.told(notThere, "p1 1;k0 2;").call("plumbs", 39, 0).due(0, "drew", 0);
        Run gone = Run.told(notThere, "p1 1;k0 2;").call("plumbs", 1, 1).due(9, "drew", 0).call("drops", 1).due(0, "drew", 0);
        gone.call("undo").due(9, "drew", 0);
    }

    private static void night() {
        String sentence = "NIGHT: how many (what = 0), the least (1; NONE). BAD.";
        Run.lived(sentence).within(BAD, "night", ZERO_ONE);
        Run.of(sentence).within(BAD, "night", ZERO_ONE);
        Run.of(sentence).same(81, "night", 0).same(11, "night", 1);
        Run.told(sentence, "p1 1;k0 20;k0 20;").same(81, "night", 0).same(11, "night", 1);
        String held = "CROSSED NOW (whether it HOLDS or not)";
        Run.told(held, "p1 1;k0 2;g30;").call("plumbs", 0, 1).due(81, "night", 0);
        Run.told(held, "p1 1;k0 20;g1;s0;").call("plumbs", 0, 1).due(81, "night", 0);
        Run.told(held, "p9 1;k0 6;").call("plumbs", 6, 9).due(9, "night", 0).due(19, "night", 1);
        Run.told(held, "p1 1;k0 6;").times(99, "year").call("plumbs", 5, 0).due(81, "night", 0);
    }

    private static void nightTwos() {
        String sentence = "somebody unknown of 1 .. 9 HEAVY, of wool 1 .. 9 THICK: the least (10 times HEAVY and THICK)";
        for (int thick = 1; thick <= 9; thick++) {
            for (int heavy = 1; heavy <= 9; heavy++) {
                Run run = Run.told(sentence, "p1 1;k0 3;").call("plumbs", 2 + heavy, thick);
                run.due(10 - heavy, "night", 0).due(10 * heavy + thick, "night", 1);
            }
        }
        Run.of(sentence).call("plumbs", 0, 0).due(0, "night", 0).due(NONE, "night", 1);
        Run.told(sentence, "p1 1;k0 3;").call("plumbs", 11, 9).due(1, "night", 0).due(99, "night", 1);
        Run.told(sentence, "p1 1;k0 3;").call("plumbs", 12, 9).due(0, "night", 0).due(NONE, "night", 1);
        Run.told(sentence, "p1 1;k0 3;").call("plumbs", 3, 4).call("plumbs", 4, 4).due(8, "night", 0).due(24, "night", 1);
        Run.told(sentence, "p1 1;k0 3;").call("plumbs", 3, 4).call("plumbs", 4, 5).due(0, "night", 0);
    }

    private static void nightAtForty() {
        String sentence = "the first ROWS go, if there would be more than 40 (by night)";
        Run.told(sentence, "p1 5;k0 20;k0 11;").call("plumbs", 39, 3).due(1, "night", 0).due(93, "night", 1);
        Run.told(sentence, "p1 5;k0 20;k0 12;").call("plumbs", 39, 3).due(2, "night", 0).due(83, "night", 1);
        Run.told(sentence, "p1 5;k0 20;k0 19;").call("plumbs", 39, 3).due(9, "night", 0).due(13, "night", 1);
        Run full = Run.told(sentence, "p1 5;k0 20;k0 20;").call("plumbs", 39, 3).due(9, "night", 0).due(13, "night", 1);
        full.call("forget").call("plumbs", 31, 3).due(1, "night", 0).due(93, "night", 1);
        full.call("forget").call("plumbs", 30, 3).due(0, "night", 0).due(NONE, "night", 1);
        full.call("forget").call("plumbs", 30, 5).due(81, "night", 0);
        Run first = Run.told(sentence, "p1 5;p1 2;k1 9;k0 20;k0 11;").call("plumbs", 0, 5).due(9, "night", 0).due(91, "night", 1);
        first.call("forget").call("plumbs", 0, 2).due(72, "night", 0).due(11, "night", 1);
        Run fits = Run.told(sentence, "p1 5;p1 2;k1 1;k0 20;k0 10;").call("plumbs", 0, 2).due(81, "night", 0);
        fits.read("p1 5;p1 2;k1 1;k0 20;k0 11;").call("plumbs", 0, 2).due(72, "night", 0);
    }

    private static void nightNone() {
        String sentence = "all that was PLUMBED is so then: NONE";
        Run.told(sentence, "p1 5;k0 2;").call("plumbs", 0, 4).same(0, "night", 0).same(NONE, "night", 1);
        Run.told(sentence, "p1 5;k0 2;").call("plumbs", 0, 5).call("plumbs", 2, 5).same(9, "night", 0).same(15, "night", 1);
        Run.told(sentence, "p1 5;k0 2;").call("plumbs", 11, 0).same(0, "night", 0);
        Run old = Run.told(sentence, "p1 5;k0 2;").times(4, "year").call("plumbs", 1, 4).due(81, "night", 0);
        old.call("plumbs", 2, 5).due(9, "night", 0).due(15, "night", 1);
        Run six = Run.told(sentence, "p1 5;k0 2;").times(5, "plumbs", 0, 5).due(81, "night", 0);
        six.call("plumbs", 39, 5).due(0, "night", 0).due(0, "drew", 0);
    }

    private static void nothingIsChanged() {
        Run run = Run.lived("From NOW on; nothing is changed.");
        run.same(0, "order", -1, 0).same(NONE, "order", 0, 0).same(NONE, "lastOne");
        run.same(2, "crossings", 0).same(1, "crossings", 1).same(10, "over", 0).same(2, "over", 1);
        run.same(0, "mend", 0, 0).same(0, "mend", 1, 1).same(1, "odds", 0, 3, 2, 1).same(0, "odds", 1, 3, 2, 0);
        run.same(45, "drew", 0).same(11, "drew", 1).same(81, "night", 0).same(11, "night", 1);
        run.same(4, "person", 0, 2).same(3, "row", 0, 3);
    }
}
