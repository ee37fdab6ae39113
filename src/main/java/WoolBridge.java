/** A bridge of wool that is knitted on by whoever crosses it; DOC.md says what each call answers. */
public final class WoolBridge {
    public static final int BAD = -1, STATE = -2, FULL = -3, NONE = -9;
    public static final int NO = -1000000;

    private static final int TOO_LONG = -5;
    private static final int FAULT_BASE = -10;
    private static final int TEXT_MOST = 150;
    private static final int PEOPLE_MOST = 6;
    private static final int ROWS_MOST = 40;
    private static final int ROWS_TOLD_MOST = 20;
    private static final int DIGIT_MOST = 9;
    private static final int GAP_MOST = 30;
    private static final int SLACK_MOST = 30;
    private static final int GAP_AT_FIRST = 6;
    private static final int SLACK_AT_FIRST = 6;
    private static final int OLD_MOST = 99;
    private static final int YEAR_MOST = 200;
    private static final int UNDO_MOST = 8;
    private static final int PLUMBED_MOST = 6;
    private static final int OVER_MOST = 60;
    private static final int CROSSINGS_MOST = 30;
    private static final int ODDS_OF = 10;
    private static final int ODDS_YEARS_MOST = 6;
    private static final int IMAGES = 2;

    private final Text text;
    private final Past past;
    private final Past[] images;
    private final boolean[] kept;
    private final Plumbed plumbed;
    private final Ahead ahead;
    private Told told;
    private Told spare;
    private long traced;

    public WoolBridge() {
        text = new Text();
        past = new Past();
        images = new Past[IMAGES];
        for (int i = 0; i < IMAGES; i++) {
            images[i] = new Past();
        }
        kept = new boolean[IMAGES];
        plumbed = new Plumbed();
        ahead = new Ahead();
        told = new Told();
        spare = new Told();
    }

    // ---- the gorge

    public int type(int c) {
        if (!within(c, 0, 255)) {
            return BAD;
        }
        return text.add(c) ? text.size : FULL;
    }

    public int clear() {
        return text.empty();
    }

    public int gorge() {
        int items = text.readInto(spare);
        if (items < 0) {
            return items;
        }
        Told old = told;
        told = spare;
        spare = old;
        text.empty();
        past.startFrom(told);
        plumbed.empty();
        for (int i = 0; i < IMAGES; i++) {
            kept[i] = false;
        }
        return items;
    }

    public int person(int p, int what) {
        if (!told.has(p)) {
            return BAD;
        }
        switch (what) {
            case 0: return told.heavy[p];
            case 1: return told.thick[p];
            case 2: return span().share(p);
            default: return BAD;
        }
    }

    public int row(int r, int what) {
        Span span = span();
        if (!span.has(r)) {
            return BAD;
        }
        switch (what) {
            case 0: return span.whose[r];
            case 1: return span.thick[r];
            case 2: return span.old[r];
            case 3: return span.bears(r);
            default: return BAD;
        }
    }

    // ---- what is done

    public int crosses(int p) {
        if (!told.has(p)) {
            return BAD;
        }
        if (!holdsNow(p)) {
            return STATE;
        }
        Span span = past.step();
        span.knit(p, told.heavy[p], told.thick[p]);
        return span.rows;
    }

    public int turnsBack() {
        if (span().rows == 0) {
            return STATE;
        }
        return past.step().unravel();
    }

    public int drops(int r) {
        if (!span().has(r)) {
            return BAD;
        }
        Span span = past.step();
        span.removeFrom(r, 1);
        return span.rows;
    }

    public int draws(int r) {
        if (!span().has(r)) {
            return BAD;
        }
        if (span().thick[r] == 0) {
            return STATE;
        }
        Span span = past.step();
        span.thick[r]--;
        return span.bears(r);
    }

    public int rains(int is) {
        if (!within(is, 0, 1)) {
            return BAD;
        }
        boolean rain = is == 1;
        if (span().rain == rain) {
            return STATE;
        }
        Span span = past.step();
        span.rain = rain;
        return span.length();
    }

    public int year() {
        if (span().year >= YEAR_MOST) {
            return STATE;
        }
        Span span = past.step();
        span.age();
        return span.strength();
    }

    public int undo() {
        if (past.known == 0) {
            return STATE;
        }
        past.stepBack();
        return past.known;
    }

    public int now(int what) {
        Span span = span();
        switch (what) {
            case 0: return span.year;
            case 1: return span.rows;
            case 2: return span.length();
            case 3: return span.rain ? 1 : 0;
            case 4: return span.strength();
            case 5: return mayCross();
            case 6: return span.thinnest();
            case 7: return span.holes();
            case 8: return span.middle();
            default: return BAD;
        }
    }

    // ---- who gets over

    public int order(int last, int i) {
        if (last != -1 && !told.has(last) || !told.has(i)) {
            return BAD;
        }
        ahead.startFrom(span());
        return ahead.findOrder(told, last) ? ahead.chosen[i] : NONE;
    }

    public int lastOne() {
        ahead.startFrom(span());
        for (int p = 0; p < told.people; p++) {
            if (!ahead.crossed(told, p)) {
                return p;
            }
        }
        return NONE;
    }

    public int crossings(int p) {
        if (!told.has(p)) {
            return BAD;
        }
        ahead.startFrom(span());
        int times = 0;
        while (times < CROSSINGS_MOST && ahead.crossed(told, p)) {
            times++;
        }
        return times;
    }

    public int over(int p) {
        if (!told.has(p)) {
            return BAD;
        }
        Span span = span();
        for (int years = 0; years <= OVER_MOST; years++) {
            if (!told.holds(p, span.length(), span.leastAfter(years))) {
                return years;
            }
        }
        return NONE;
    }

    public int mend(int p, int what) {
        if (!told.has(p) || !within(what, 0, 1)) {
            return BAD;
        }
        Span span = span();
        int rowsMore = rowsToGap(span);
        if (span.lengthOf(span.rows + rowsMore) > told.gap + told.slack) {
            return TOO_LONG;
        }
        int need = (told.heavy[p] + 1) / 2;
        return what == 1 ? rowsMore : span.woolFor(need) + rowsMore * need;
    }

    public int odds(int p, int x, int n, int what) {
        if (!told.has(p) || !within(x, 0, ODDS_OF) || !within(n, 0, ODDS_YEARS_MOST) || !within(what, 0, 1)) {
            return BAD;
        }
        int upper = 1;
        int lower = 1;
        for (int years = 1; years <= n; years++) {
            upper *= chancesAfter(years, p, x);
            lower *= ODDS_OF;
        }
        int common = Math.max(1, commonDivisor(upper, lower));
        return (what == 0 ? upper : lower) / common;
    }

    // ---- what was plumbed

    public int plumbs(int r, int bears) {
        if (!within(r, 0, ROWS_MOST - 1) || !within(bears, 0, DIGIT_MOST)) {
            return BAD;
        }
        return plumbed.add(r, bears) ? plumbed.size : FULL;
    }

    public int forget() {
        return plumbed.empty();
    }

    public int drew(int what) {
        if (!within(what, 0, 1)) {
            return BAD;
        }
        Span span = span();
        int many = 0;
        int first = NONE;
        for (int r = 0; r < span.rows; r++) {
            for (int threads = 1; threads <= DIGIT_MOST; threads++) {
                if (plumbed.isSoIfDrawn(span, r, threads)) {
                    first = many == 0 ? 10 * r + threads : first;
                    many++;
                }
            }
        }
        return what == 0 ? many : first;
    }

    public int night(int what) {
        if (!within(what, 0, 1)) {
            return BAD;
        }
        Span span = span();
        int many = 0;
        int least = NONE;
        for (int heavy = 1; heavy <= DIGIT_MOST; heavy++) {
            for (int thick = 1; thick <= DIGIT_MOST; thick++) {
                if (plumbed.isSoIfCrossed(span, heavy, thick)) {
                    least = many == 0 ? 10 * heavy + thick : least;
                    many++;
                }
            }
        }
        return what == 0 ? many : least;
    }

    // ---- kinds, images

    public int mark(int kind, int r) {
        if (!span().has(r)) {
            return NO;
        }
        switch (kind) {
            case 0: return markOfRow(r);
            case 1: return markOfPoor(r);
            case 2: return markOfBride(r);
            case 3: return markOfDrover(r);
            case 4: return markOfOath(r);
            case 5: return markOfSheep(r);
            default: return NO;
        }
    }

    public int keep(int image) {
        if (!within(image, 0, IMAGES - 1)) {
            return BAD;
        }
        images[image].takeAll(past);
        kept[image] = true;
        return span().year;
    }

    public int back(int image) {
        if (!within(image, 0, IMAGES - 1)) {
            return BAD;
        }
        if (!kept[image]) {
            return STATE;
        }
        past.takeAll(images[image]);
        return span().year;
    }

    public int count(int what) {
        switch (what) {
            case 0: return told.people;
            case 1: return told.gap;
            case 2: return told.slack;
            case 3: return plumbed.size;
            case 4: return past.known;
            case 5: return text.size;
            default: return BAD;
        }
    }

    public long trace() {
        return traced;
    }

    // ---- helpers

    private static boolean within(int number, int least, int most) {
        return number >= least && number <= most;
    }

    private Span span() {
        return past.latest();
    }

    private boolean holdsNow(int p) {
        Span span = span();
        return told.holds(p, span.length(), span.leastAfter(0));
    }

    private int mayCross() {
        int bits = 0;
        for (int p = 0; p < told.people; p++) {
            if (holdsNow(p)) {
                bits |= 1 << p;
            }
        }
        return bits;
    }

    private int rowsToGap(Span span) {
        int more = 0;
        while (more < GAP_MOST && span.lengthOf(span.rows + more) < told.gap) {
            more++;
        }
        return more;
    }

    /** Of the ten ways a year may end, in how many it holds the person then. */
    private int chancesAfter(int years, int p, int rainy) {
        Span span = span();
        int least = span.leastAfter(years);
        int ways = 0;
        if (told.holds(p, lengthWith(span.rows, true), least)) {
            ways += rainy;
        }
        if (told.holds(p, lengthWith(span.rows, false), least)) {
            ways += ODDS_OF - rainy;
        }
        return ways;
    }

    private static int lengthWith(int rows, boolean rain) {
        return rain ? rows + rows / 5 : rows;
    }

    private static int commonDivisor(int a, int b) {
        int greater = a;
        int less = b;
        for (int i = 0; i < 64 && less != 0; i++) {
            int rest = greater % less;
            greater = less;
            less = rest;
        }
        return greater;
    }

    private int markOfRow(int r) {
        traced += 1;
        return span().thick[r];
    }

    private int markOfPoor(int r) {
        traced += 10;
        return markOfRow(r) + span().bears(r);
    }

    private int markOfBride(int r) {
        traced += 100;
        return markOfRow(r) - span().old[r];
    }

    private int markOfDrover(int r) {
        traced += 1000;
        return markOfPoor(r) * 2;
    }

    private int markOfOath(int r) {
        traced += 10000;
        return markOfBride(r) + told.heavy[span().whose[r]];
    }

    private int markOfSheep(int r) {
        traced += 100000;
        return markOfRow(r) + span().year;
    }

    /** What a text tells: the people, the gap with its slack, and whose the rows are at first. */
    private static final class Told {
        final int[] heavy = new int[PEOPLE_MOST];
        final int[] thick = new int[PEOPLE_MOST];
        final int[] whose = new int[ROWS_MOST];
        int people;
        int rows;
        int gap = GAP_AT_FIRST;
        int slack = SLACK_AT_FIRST;
        boolean gapTold;
        boolean slackTold;

        void startAnew() {
            people = 0;
            rows = 0;
            gap = GAP_AT_FIRST;
            slack = SLACK_AT_FIRST;
            gapTold = false;
            slackTold = false;
        }

        boolean has(int p) {
            return within(p, 0, people - 1);
        }

        boolean holds(int p, int length, int leastBorne) {
            return within(length, gap, gap + slack) && 2 * leastBorne >= heavy[p];
        }

        void addPerson(int itsHeavy, int itsThick) {
            if (people < PEOPLE_MOST) {
                heavy[people] = itsHeavy;
                thick[people] = itsThick;
                people++;
            }
        }

        void addRows(int p, int many) {
            for (int i = 0; i < many && rows < ROWS_MOST; i++) {
                whose[rows] = p;
                rows++;
            }
        }
    }

    /** The text as it is typed, and how it is read. */
    private static final class Text {
        private static final int END = 0;
        private static final int LETTERS = 1;
        private static final int NUMBER = 2;
        private static final int SEMICOLON = 3;
        private static final int WRONG = 4;

        private final int[] bytes = new int[TEXT_MOST];
        private int size;
        private int next;
        // Of the token at hand: where it begins, what it is, and its number, or its letter if it is just one.
        private int start;
        private int token;
        private int value;

        boolean add(int c) {
            if (size >= TEXT_MOST) {
                return false;
            }
            bytes[size] = c;
            size++;
            return true;
        }

        int empty() {
            int had = size;
            size = 0;
            return had;
        }

        /** How many items there were, or the answer that names the fault. */
        int readInto(Told told) {
            told.startAnew();
            next = 0;
            int items = 0;
            advance();
            while (items < TEXT_MOST && token != END) {
                if (!readItem(told)) {
                    return FAULT_BASE - start;
                }
                items++;
                advance();
            }
            return items;
        }

        private boolean readItem(Told told) {
            if (token != LETTERS) {
                return false;
            }
            switch (value) {
                case 'p': return readPerson(told);
                case 'k': return readRows(told);
                case 'g': return readGap(told);
                case 's': return readSlack(told);
                default: return false;
            }
        }

        private boolean readPerson(Told told) {
            if (told.people >= PEOPLE_MOST || !readNumber(1, DIGIT_MOST)) {
                return false;
            }
            int heavy = value;
            if (!readNumber(1, DIGIT_MOST)) {
                return false;
            }
            told.addPerson(heavy, value);
            return readSemicolon();
        }

        private boolean readRows(Told told) {
            if (!readNumber(0, told.people - 1)) {
                return false;
            }
            int p = value;
            if (!readNumber(1, Math.min(ROWS_TOLD_MOST, ROWS_MOST - told.rows))) {
                return false;
            }
            told.addRows(p, value);
            return readSemicolon();
        }

        private boolean readGap(Told told) {
            if (told.gapTold || !readNumber(1, GAP_MOST)) {
                return false;
            }
            told.gap = value;
            told.gapTold = true;
            return readSemicolon();
        }

        private boolean readSlack(Told told) {
            if (told.slackTold || !readNumber(0, SLACK_MOST)) {
                return false;
            }
            told.slack = value;
            told.slackTold = true;
            return readSemicolon();
        }

        private boolean readNumber(int least, int most) {
            advance();
            return token == NUMBER && within(value, least, most);
        }

        private boolean readSemicolon() {
            advance();
            return token == SEMICOLON;
        }

        /** The end counts as a token that begins at the text's length, so that a fault is always where a token begins. */
        private void advance() {
            while (next < size && bytes[next] == ' ') {
                next++;
            }
            start = next;
            token = next < size ? tokenBegunBy(bytes[next]) : END;
            if (token == END) {
                return;
            }
            next++;
            if (token == LETTERS || token == NUMBER) {
                while (next < size && tokenBegunBy(bytes[next]) == token) {
                    next++;
                }
                weigh(next - start);
            }
        }

        private static int tokenBegunBy(int c) {
            if (c >= 'a' && c <= 'z') {
                return LETTERS;
            }
            if (c >= '0' && c <= '9') {
                return NUMBER;
            }
            return c == ';' ? SEMICOLON : WRONG;
        }

        /** Three digits are above 99 or begin with a 0, so no more than two are ever reckoned. */
        private void weigh(int length) {
            int first = bytes[start];
            if (token == LETTERS) {
                value = length == 1 ? first : 0;
            } else if (length == 1) {
                value = first - '0';
            } else if (length == 2 && first != '0') {
                value = (first - '0') * 10 + bytes[start + 1] - '0';
            } else {
                token = WRONG;
            }
        }
    }

    /** The bridge at one time: its rows, the rain, the year. */
    private static final class Span {
        final int[] whose = new int[ROWS_MOST];
        final int[] thick = new int[ROWS_MOST];
        final int[] old = new int[ROWS_MOST];
        int rows;
        boolean rain;
        int year;

        void startFrom(Told told) {
            rows = 0;
            rain = false;
            year = 0;
            for (int r = 0; r < told.rows; r++) {
                int p = told.whose[r];
                knit(p, 1, told.thick[p]);
            }
        }

        void take(Span other) {
            System.arraycopy(other.whose, 0, whose, 0, other.rows);
            System.arraycopy(other.thick, 0, thick, 0, other.rows);
            System.arraycopy(other.old, 0, old, 0, other.rows);
            rows = other.rows;
            rain = other.rain;
            year = other.year;
        }

        boolean has(int r) {
            return within(r, 0, rows - 1);
        }

        int bears(int r) {
            return bearsAs(r, thick[r], 0);
        }

        /** What the row would bear if it were so thick, so many years from now. */
        int bearsAs(int r, int itsThick, int years) {
            return Math.max(0, itsThick - Math.min(OLD_MOST, old[r] + years) / 4);
        }

        int length() {
            return lengthOf(rows);
        }

        int lengthOf(int many) {
            return lengthWith(many, rain);
        }

        /** What the weakest row bears so many years from now; without rows, as much as any could. */
        int leastAfter(int years) {
            int least = DIGIT_MOST;
            for (int r = 0; r < rows; r++) {
                least = Math.min(least, bearsAs(r, thick[r], years));
            }
            return least;
        }

        int strength() {
            return Math.min(DIGIT_MOST, 2 * leastAfter(0));
        }

        int thinnest() {
            int found = NONE;
            int least = DIGIT_MOST + 1;
            for (int r = 0; r < rows; r++) {
                if (bears(r) < least) {
                    least = bears(r);
                    found = r;
                }
            }
            return found;
        }

        int holes() {
            int many = 0;
            for (int r = 0; r < rows; r++) {
                if (bears(r) == 0) {
                    many++;
                }
            }
            return many;
        }

        int middle() {
            return rows == 0 ? NONE : whose[(rows - 1) / 2];
        }

        int share(int p) {
            int many = 0;
            for (int r = 0; r < rows; r++) {
                if (whose[r] == p) {
                    many++;
                }
            }
            return many;
        }

        /** How much thicker all rows together must be made so that each bears what is needed. */
        int woolFor(int need) {
            int wool = 0;
            for (int r = 0; r < rows; r++) {
                // Not from what it bears: a row rotten below nothing must be made good from there.
                wool += Math.max(0, need + old[r] / 4 - thick[r]);
            }
            return wool;
        }

        void knit(int p, int many, int itsThick) {
            removeFrom(0, rows + many - ROWS_MOST);
            for (int i = 0; i < many && rows < ROWS_MOST; i++) {
                whose[rows] = p;
                thick[rows] = itsThick;
                old[rows] = 0;
                rows++;
            }
        }

        /** How many rows went: those at the end that are the last one's. */
        int unravel() {
            int had = rows;
            while (rows > 0 && whose[rows - 1] == whose[had - 1]) {
                rows--;
            }
            return had - rows;
        }

        void removeFrom(int r, int many) {
            int behind = rows - r - many;
            if (r < 0 || many <= 0 || behind < 0) {
                return;
            }
            System.arraycopy(whose, r + many, whose, r, behind);
            System.arraycopy(thick, r + many, thick, r, behind);
            System.arraycopy(old, r + many, old, r, behind);
            rows -= many;
        }

        void age() {
            for (int r = 0; r < rows; r++) {
                old[r] = Math.min(OLD_MOST, old[r] + 1);
            }
            year++;
        }
    }

    /** The bridge as it is and as it was ahead of the latest deeds: a ring, in which the oldest is written over. */
    private static final class Past {
        private final Span[] spans = new Span[UNDO_MOST + 1];
        private int at;
        private int known;

        Past() {
            for (int i = 0; i <= UNDO_MOST; i++) {
                spans[i] = new Span();
            }
        }

        void startFrom(Told told) {
            known = 0;
            latest().startFrom(told);
        }

        Span latest() {
            return spans[at];
        }

        /** The bridge to be changed by a deed; as it is now stays behind. */
        Span step() {
            Span before = latest();
            at = at == UNDO_MOST ? 0 : at + 1;
            known = Math.min(UNDO_MOST, known + 1);
            latest().take(before);
            return latest();
        }

        void stepBack() {
            at = at == 0 ? UNDO_MOST : at - 1;
            known--;
        }

        void takeAll(Past other) {
            for (int i = 0; i <= UNDO_MOST; i++) {
                spans[i].take(other.spans[i]);
            }
            at = other.at;
            known = other.known;
        }
    }

    /** What would be if people crossed one behind another. Rows only come at the end, so to go back is to forget some. */
    private static final class Ahead {
        private final int[] bears = new int[ROWS_MOST + CROSSINGS_MOST * DIGIT_MOST];
        private final int[] chosen = new int[PEOPLE_MOST];
        private int end;
        private boolean rain;

        void startFrom(Span span) {
            for (int r = 0; r < span.rows; r++) {
                bears[r] = span.bears(r);
            }
            end = span.rows;
            rain = span.rain;
        }

        /** Whether it holds the person; if so, he has crossed then. */
        boolean crossed(Told told, int p) {
            if (!told.holds(p, length(), least())) {
                return false;
            }
            knit(told, p);
            return true;
        }

        boolean findOrder(Told told, int last) {
            return findRest(this, told, last, 0, 0);
        }

        /** Tries by numbers all who are not across yet (bits); depth is how many are, six at most. */
        private static boolean findRest(Ahead ahead, Told told, int last, int across, int depth) {
            if (depth >= told.people || depth >= PEOPLE_MOST) {
                return true;
            }
            int here = ahead.end;
            int length = ahead.length();
            int least = ahead.least();
            boolean lastTurn = depth == told.people - 1;
            for (int p = 0; p < told.people; p++) {
                boolean hisTurn = (across & (1 << p)) == 0 && (last == -1 || (p == last) == lastTurn);
                if (hisTurn && told.holds(p, length, least)) {
                    ahead.chosen[depth] = p;
                    ahead.knit(told, p);
                    if (findRest(ahead, told, last, across | (1 << p), depth + 1)) {
                        return true;
                    }
                    ahead.end = here;
                }
            }
            return false;
        }

        private void knit(Told told, int p) {
            for (int i = 0; i < told.heavy[p] && end < bears.length; i++) {
                bears[end] = told.thick[p];
                end++;
            }
        }

        private int first() {
            return Math.max(0, end - ROWS_MOST);
        }

        private int length() {
            return lengthWith(end - first(), rain);
        }

        private int least() {
            int least = DIGIT_MOST;
            for (int r = first(); r < end; r++) {
                least = Math.min(least, bears[r]);
            }
            return least;
        }
    }

    /** What was plumbed, and whether it is so if something was done by night. */
    private static final class Plumbed {
        private final int[] row = new int[PLUMBED_MOST];
        private final int[] borne = new int[PLUMBED_MOST];
        private int size;

        boolean add(int r, int bears) {
            if (size >= PLUMBED_MOST) {
                return false;
            }
            row[size] = r;
            borne[size] = bears;
            size++;
            return true;
        }

        int empty() {
            int had = size;
            size = 0;
            return had;
        }

        boolean isSoIfDrawn(Span span, int r, int threads) {
            for (int i = 0; i < size; i++) {
                if (!span.has(row[i])) {
                    return false;
                }
                int drawn = row[i] == r ? threads : 0;
                if (span.bearsAs(row[i], span.thick[row[i]] - drawn, 0) != borne[i]) {
                    return false;
                }
            }
            return true;
        }

        boolean isSoIfCrossed(Span span, int heavy, int thick) {
            int rows = span.rows + heavy;
            int gone = Math.max(0, rows - ROWS_MOST);
            for (int i = 0; i < size; i++) {
                int was = row[i] + gone;
                if (was >= rows) {
                    return false;
                }
                int bears = span.has(was) ? span.bears(was) : thick;
                if (bears != borne[i]) {
                    return false;
                }
            }
            return true;
        }
    }
}
