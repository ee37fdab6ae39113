import java.util.ArrayList;
import java.util.List;
import java.util.regex.Matcher;
import java.util.regex.Pattern;

/** The document once more, in the plainest way: lists that are copied, all orders, all weathers tried one by one. */
final class Model {
    private record Person(int heavy, int thick) {
    }

    private record Row(int whose, int thick, int old) {
        int bears() {
            return Math.max(0, thick - old / 4);
        }
    }

    private record Bridge(List<Row> rows, boolean rain, int year) {
        int length() {
            return rows.size() + (rain ? rows.size() / 5 : 0);
        }

        Bridge with(List<Row> others) {
            return new Bridge(others, rain, year);
        }

        Bridge crossed(int p, Person person) {
            List<Row> then = new ArrayList<>(rows);
            for (int i = 0; i < person.heavy; i++) {
                then.add(new Row(p, person.thick, 0));
            }
            while (then.size() > 40) {
                then.remove(0);
            }
            return with(then);
        }

        Bridge drawn(int r) {
            List<Row> then = new ArrayList<>(rows);
            Row row = then.get(r);
            then.set(r, new Row(row.whose, Math.max(0, row.thick - 1), row.old));
            return with(then);
        }

        Bridge aged(boolean rainThen) {
            List<Row> then = new ArrayList<>();
            for (Row row : rows) {
                then.add(new Row(row.whose, row.thick, Math.min(99, row.old + 1)));
            }
            return new Bridge(then, rainThen, year + 1);
        }

        int bears() {
            int heavy = 9;
            while (heavy > 0 && !bearsAll(heavy)) {
                heavy--;
            }
            return heavy;
        }

        boolean bearsAll(int heavy) {
            return rows.stream().allMatch(row -> 2 * row.bears() >= heavy);
        }
    }

    private final StringBuilder text = new StringBuilder();
    private List<Person> people = new ArrayList<>();
    private int gap = 6;
    private int slack = 6;
    private Bridge now = new Bridge(List.of(), false, 0);
    private List<Bridge> before = new ArrayList<>();
    private final Bridge[] images = new Bridge[2];
    private final List<List<Bridge>> imagesBefore = new ArrayList<>(List.of(List.of(), List.of()));
    private final List<int[]> plumbed = new ArrayList<>();
    private long traced = 0;

    int type(int c) {
        if (c < 0 || c > 255) {
            return -1;
        }
        if (text.length() == 150) {
            return -3;
        }
        text.append((char) c);
        return text.length();
    }

    int clear() {
        int had = text.length();
        text.setLength(0);
        return had;
    }

    private static final Pattern TOKEN = Pattern.compile("[a-z]+|[0-9]+|;");

    int gorge() {
        List<Person> newPeople = new ArrayList<>();
        List<Row> rows = new ArrayList<>();
        int[] newGap = {6};
        int[] newSlack = {6};
        String told = "";
        String item = "";
        int items = 0;
        int place = 0;
        while (place < text.length()) {
            if (text.charAt(place) == ' ') {
                place++;
                continue;
            }
            Matcher matcher = TOKEN.matcher(text).region(place, text.length());
            if (!matcher.lookingAt()) {
                return -10 - place;
            }
            String token = matcher.group();
            item = item.isEmpty() ? token : item + " " + token;
            if (!mayStand(item, newPeople.size(), rows.size(), told)) {
                return -10 - place;
            }
            if (token.equals(";")) {
                take(item.split(" "), newPeople, rows, newGap, newSlack);
                told += item.charAt(0);
                item = "";
                items++;
            }
            place = matcher.end();
        }
        if (!item.isEmpty()) {
            return -10 - text.length();
        }
        people = newPeople;
        gap = newGap[0];
        slack = newSlack[0];
        now = new Bridge(rows, false, 0);
        before = new ArrayList<>();
        images[0] = null;
        images[1] = null;
        plumbed.clear();
        text.setLength(0);
        return items;
    }

    private static boolean mayStand(String item, int people, int rows, String told) {
        String[] words = item.split(" ");
        int last = words.length - 1;
        if (last == 0) {
            return item.equals("p") && people < 6 || item.equals("k")
                || (item.equals("g") || item.equals("s")) && !told.contains(item);
        }
        boolean two = words[0].equals("p") || words[0].equals("k");
        if (last == (two ? 3 : 2)) {
            return words[last].equals(";");
        }
        if (!words[last].matches("0|[1-9][0-9]?")) {
            return false;
        }
        int number = Integer.parseInt(words[last]);
        switch (words[0]) {
            case "p": return number >= 1 && number <= 9;
            case "g": return number >= 1 && number <= 30;
            case "s": return number <= 30;
            default: return last == 1 ? number < people : number >= 1 && number <= 20 && rows + number <= 40;
        }
    }

    private static void take(String[] words, List<Person> people, List<Row> rows, int[] gap, int[] slack) {
        int first = Integer.parseInt(words[1]);
        switch (words[0]) {
            case "p": people.add(new Person(first, Integer.parseInt(words[2]))); break;
            case "g": gap[0] = first; break;
            case "s": slack[0] = first; break;
            default:
                for (int i = 0; i < Integer.parseInt(words[2]); i++) {
                    rows.add(new Row(first, people.get(first).thick, 0));
                }
        }
    }

    private boolean isPerson(int p) {
        return p >= 0 && p < people.size();
    }

    private boolean isRow(int r) {
        return r >= 0 && r < now.rows.size();
    }

    private boolean holds(Bridge bridge, Person person) {
        return bridge.length() >= gap && bridge.length() <= gap + slack && bridge.bearsAll(person.heavy);
    }

    private void becomes(Bridge then) {
        before.add(now);
        if (before.size() > 8) {
            before.remove(0);
        }
        now = then;
    }

    int person(int p, int what) {
        if (!isPerson(p) || what < 0 || what > 2) {
            return -1;
        }
        int share = (int) now.rows.stream().filter(row -> row.whose == p).count();
        return new int[] {people.get(p).heavy, people.get(p).thick, share}[what];
    }

    int row(int r, int what) {
        if (!isRow(r) || what < 0 || what > 3) {
            return -1;
        }
        Row row = now.rows.get(r);
        return new int[] {row.whose, row.thick, row.old, row.bears()}[what];
    }

    int crosses(int p) {
        if (!isPerson(p)) {
            return -1;
        }
        if (!holds(now, people.get(p))) {
            return -2;
        }
        becomes(now.crossed(p, people.get(p)));
        return now.rows.size();
    }

    int turnsBack() {
        int rows = now.rows.size();
        if (rows == 0) {
            return -2;
        }
        int whose = now.rows.get(rows - 1).whose;
        int left = rows;
        while (left > 0 && now.rows.get(left - 1).whose == whose) {
            left--;
        }
        becomes(now.with(new ArrayList<>(now.rows.subList(0, left))));
        return rows - left;
    }

    int drops(int r) {
        if (!isRow(r)) {
            return -1;
        }
        List<Row> then = new ArrayList<>(now.rows);
        then.remove(r);
        becomes(now.with(then));
        return then.size();
    }

    int draws(int r) {
        if (!isRow(r)) {
            return -1;
        }
        if (now.rows.get(r).thick == 0) {
            return -2;
        }
        becomes(now.drawn(r));
        return now.rows.get(r).bears();
    }

    int rains(int is) {
        if (is != 0 && is != 1) {
            return -1;
        }
        if (now.rain == (is == 1)) {
            return -2;
        }
        becomes(new Bridge(now.rows, is == 1, now.year));
        return now.length();
    }

    int year() {
        if (now.year == 200) {
            return -2;
        }
        becomes(now.aged(now.rain));
        return now.bears();
    }

    int undo() {
        if (before.isEmpty()) {
            return -2;
        }
        now = before.remove(before.size() - 1);
        return before.size();
    }

    int now(int what) {
        int may = 0;
        for (int p = 0; p < people.size(); p++) {
            may += holds(now, people.get(p)) ? 1 << p : 0;
        }
        int thin = -9;
        int holes = 0;
        for (int r = 0; r < now.rows.size(); r++) {
            if (thin == -9 || now.rows.get(r).bears() < now.rows.get(thin).bears()) {
                thin = r;
            }
            holes += now.rows.get(r).bears() == 0 ? 1 : 0;
        }
        int rows = now.rows.size();
        int middle = rows == 0 ? -9 : now.rows.get(rows % 2 == 0 ? rows / 2 - 1 : rows / 2).whose;
        int[] all = {now.year, rows, now.length(), now.rain ? 1 : 0, now.bears(), may, thin, holes, middle};
        return what < 0 || what >= all.length ? -1 : all[what];
    }

    int order(int last, int i) {
        if (last != -1 && !isPerson(last) || !isPerson(i)) {
            return -1;
        }
        for (List<Integer> order : orders()) {
            if ((last == -1 || order.get(order.size() - 1) == last) && firstNotHeld(order) == -9) {
                return order.get(i);
            }
        }
        return -9;
    }

    /** All orders by numbers, as all numbers of so many places that have each figure once. */
    private List<List<Integer>> orders() {
        int many = people.size();
        List<List<Integer>> found = new ArrayList<>(List.of(List.of()));
        for (int place = 0; place < many; place++) {
            List<List<Integer>> longer = new ArrayList<>();
            for (List<Integer> order : found) {
                for (int p = 0; p < many; p++) {
                    if (!order.contains(p)) {
                        List<Integer> more = new ArrayList<>(order);
                        more.add(p);
                        longer.add(more);
                    }
                }
            }
            found = longer;
        }
        return found;
    }

    private int firstNotHeld(List<Integer> order) {
        Bridge then = now;
        for (int p : order) {
            if (!holds(then, people.get(p))) {
                return p;
            }
            then = then.crossed(p, people.get(p));
        }
        return -9;
    }

    int lastOne() {
        return firstNotHeld(orders().get(0));
    }

    int crossings(int p) {
        if (!isPerson(p)) {
            return -1;
        }
        Bridge then = now;
        for (int times = 0; times < 30; times++) {
            if (!holds(then, people.get(p))) {
                return times;
            }
            then = then.crossed(p, people.get(p));
        }
        return 30;
    }

    int over(int p) {
        if (!isPerson(p)) {
            return -1;
        }
        Bridge then = now;
        for (int years = 0; years <= 60; years++) {
            if (!holds(then, people.get(p))) {
                return years;
            }
            then = then.aged(then.rain);
        }
        return -9;
    }

    int mend(int p, int what) {
        if (!isPerson(p) || what != 0 && what != 1) {
            return -1;
        }
        int heavy = people.get(p).heavy;
        Person mender = new Person(1, heavy / 2 + heavy % 2);
        List<Row> mended = new ArrayList<>();
        int wool = 0;
        for (Row row : now.rows) {
            Row better = row;
            while (2 * better.bears() < heavy) {
                better = new Row(row.whose, better.thick + 1, row.old);
                wool++;
            }
            mended.add(better);
        }
        Bridge then = now.with(mended);
        int more = 0;
        while (then.length() < gap) {
            then = then.crossed(p, mender);
            wool += mender.thick;
            more++;
        }
        if (then.length() > gap + slack) {
            return -5;
        }
        return what == 0 ? wool : more;
    }

    int odds(int p, int x, int n, int what) {
        if (!isPerson(p) || x < 0 || x > 10 || n < 0 || n > 6 || what != 0 && what != 1) {
            return -1;
        }
        long upper = 0;
        for (int weather = 0; weather < 1 << n; weather++) {
            Bridge then = now;
            long ways = 1;
            for (int i = 0; i < n; i++) {
                boolean rain = (weather >> i & 1) == 1;
                then = then.aged(rain);
                ways *= holds(then, people.get(p)) ? (rain ? x : 10 - x) : 0;
            }
            upper += ways;
        }
        long lower = 1;
        for (int i = 0; i < n; i++) {
            lower *= 10;
        }
        for (int prime : new int[] {2, 5}) {
            while (upper % prime == 0 && lower % prime == 0) {
                upper /= prime;
                lower /= prime;
            }
        }
        return (int) (what == 0 ? upper : lower);
    }

    int plumbs(int r, int bears) {
        if (r < 0 || r > 39 || bears < 0 || bears > 9) {
            return -1;
        }
        if (plumbed.size() == 6) {
            return -3;
        }
        plumbed.add(new int[] {r, bears});
        return plumbed.size();
    }

    int forget() {
        int had = plumbed.size();
        plumbed.clear();
        return had;
    }

    private boolean isSo(Bridge bridge) {
        for (int[] plumb : plumbed) {
            if (plumb[0] >= bridge.rows.size() || bridge.rows.get(plumb[0]).bears() != plumb[1]) {
                return false;
            }
        }
        return true;
    }

    int drew(int what) {
        if (what != 0 && what != 1) {
            return -1;
        }
        List<Integer> found = new ArrayList<>();
        for (int r = 0; r < now.rows.size(); r++) {
            Bridge then = now;
            for (int n = 1; n <= 9; n++) {
                then = then.drawn(r);
                if (isSo(then)) {
                    found.add(10 * r + n);
                }
            }
        }
        return what == 0 ? found.size() : found.isEmpty() ? -9 : found.get(0);
    }

    int night(int what) {
        if (what != 0 && what != 1) {
            return -1;
        }
        List<Integer> found = new ArrayList<>();
        for (int two = 11; two <= 99; two++) {
            if (two % 10 != 0 && isSo(now.crossed(0, new Person(two / 10, two % 10)))) {
                found.add(two);
            }
        }
        return what == 0 ? found.size() : found.isEmpty() ? -9 : found.get(0);
    }

    int mark(int kind, int r) {
        if (kind < 0 || kind > 5 || !isRow(r)) {
            return -1000000;
        }
        Row row = now.rows.get(r);
        traced += new int[] {1, 11, 101, 1011, 10101, 100001}[kind];
        switch (kind) {
            case 0: return row.thick;
            case 1: return row.thick + row.bears();
            case 2: return row.thick - row.old;
            case 3: return 2 * (row.thick + row.bears());
            case 4: return row.thick - row.old + people.get(row.whose).heavy;
            default: return row.thick + now.year;
        }
    }

    int keep(int image) {
        if (image != 0 && image != 1) {
            return -1;
        }
        images[image] = now;
        imagesBefore.set(image, new ArrayList<>(before));
        return now.year;
    }

    int back(int image) {
        if (image != 0 && image != 1) {
            return -1;
        }
        if (images[image] == null) {
            return -2;
        }
        now = images[image];
        before = new ArrayList<>(imagesBefore.get(image));
        return now.year;
    }

    int count(int what) {
        int[] all = {people.size(), gap, slack, plumbed.size(), before.size(), text.length()};
        return what < 0 || what >= all.length ? -1 : all[what];
    }

    long trace() {
        return traced;
    }
}
