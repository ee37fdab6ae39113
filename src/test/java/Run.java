import java.util.ArrayList;
import java.util.List;

/** A test of one sentence: calls on a new bridge, the answers that are due, and what must not change behind them. */
final class Run {
    private record Call(String name, int[] given) {
        long on(Used bridge) {
            return bridge.ask(name, given);
        }

        @Override
        public String toString() {
            StringBuilder told = new StringBuilder(name).append('(');
            for (int i = 0; i < given.length; i++) {
                told.append(i == 0 ? "" : ", ").append(given[i]);
            }
            return told.append(')').toString();
        }
    }

    private static final int[] WILD = {Integer.MIN_VALUE, -1000000, 1000000, Integer.MAX_VALUE};
    private static final int UNDO_MOST = 8;
    private static final int IMAGES = 2;

    private final String sentence;
    private final List<Call> done = new ArrayList<>();
    private final Used bridge = new Used();

    private Run(String sentence) {
        this.sentence = sentence;
    }

    /** A new bridge. */
    static Run of(String sentence) {
        return new Run(sentence);
    }

    /** A bridge told by a text. */
    static Run told(String sentence, String text) {
        return of(sentence).read(text);
    }

    /** A bridge on which there is something of everything that a call may wrongly change. */
    static Run lived(String sentence) {
        Run run = told(sentence, "p2 3;p5 4;k0 4;k1 3;g4;s7;");
        run.call("year").call("draws", 5).call("keep", 1).call("rains", 1).call("crosses", 0);
        run.call("mark", 3, 0).call("keep", 0).call("drops", 8).call("year").call("turnsBack");
        return run.call("plumbs", 0, 3).call("plumbs", 5, 3).call("type", 'g');
    }

    int calls() {
        return bridge.calls();
    }

    Run type(String text) {
        for (int i = 0; i < text.length(); i++) {
            call("type", text.charAt(i));
        }
        return this;
    }

    /** Types the text and reads it, which must be without fault. */
    Run read(String text) {
        type(text);
        long items = take(new Call("gorge", new int[0]));
        Check.due(sentence + ": gorge() of '" + text + "' has a fault", Math.min(0, items), 0);
        return this;
    }

    Run call(String name, int... given) {
        take(new Call(name, given));
        return this;
    }

    Run times(int many, String name, int... given) {
        for (int i = 0; i < many; i++) {
            call(name, given);
        }
        return this;
    }

    Run due(long want, String name, int... given) {
        Call call = new Call(name, given);
        Check.due(sentence + ": " + call, take(call), want);
        return this;
    }

    /** The answers of a call by one number, from 0 on. */
    Run dues(String name, long... wants) {
        for (int i = 0; i < wants.length; i++) {
            due(wants[i], name, i);
        }
        return this;
    }

    /** What is due of a call that is refused, or just asks: behind it all is as it was. */
    Run same(long want, String name, int... given) {
        Call call = new Call(name, given);
        Used other = replay(List.of());
        Check.due(sentence + ": " + call, call.on(other), want);
        sameBehind(List.of(call));
        return this;
    }

    /** What is done, and undone at once: all is as it was. */
    Run undone(String name, int... given) {
        Call call = new Call(name, given);
        Used other = replay(List.of());
        Check.due(sentence + ": " + call + " is refused", Math.min(0, call.on(other)), 0);
        sameBehind(List.of(call, new Call("undo", new int[0])));
        return this;
    }

    /** The least and the greatest of each number are taken, those beyond are refused. */
    Run within(long refusal, String name, int[]... leastAndMost) {
        int[] good = new int[leastAndMost.length];
        for (int i = 0; i < good.length; i++) {
            good[i] = leastAndMost[i][0];
        }
        for (int i = 0; i < good.length; i++) {
            int least = leastAndMost[i][0];
            int most = leastAndMost[i][1];
            taken(refusal, name, with(good, i, least));
            taken(refusal, name, with(good, i, most));
            same(refusal, name, with(good, i, least - 1));
            same(refusal, name, with(good, i, most + 1));
            for (int wild : WILD) {
                same(refusal, name, with(good, i, wild));
            }
        }
        return this;
    }

    private void taken(long refusal, String name, int[] given) {
        Call call = new Call(name, given);
        if (call.on(replay(List.of())) == refusal) {
            Check.due(sentence + ": " + call + " is refused", 1, 0);
        }
    }

    private static int[] with(int[] numbers, int at, int number) {
        int[] others = numbers.clone();
        others[at] = number;
        return others;
    }

    private long take(Call call) {
        done.add(call);
        return call.on(bridge);
    }

    /** Another bridge on which the same was done, and more. */
    private Used replay(List<Call> more) {
        Used other = new Used();
        for (Call call : done) {
            call.on(other);
        }
        for (Call call : more) {
            call.on(other);
        }
        return other;
    }

    private void sameBehind(List<Call> more) {
        for (int way = 0; way <= UNDO_MOST + 2 * IMAGES + 2; way++) {
            String got = look(replay(more), way);
            String want = look(replay(List.of()), way);
            if (!got.equals(want)) {
                Check.due(sentence + ": changed by " + more + " (" + got + ", it was " + want + ")", 1, 0);
            }
        }
    }

    /** All that can be seen; each way first goes to where something else comes up, which leaves nothing for a further look. */
    private static String look(Used bridge, int way) {
        StringBuilder seen = new StringBuilder();
        if (way <= UNDO_MOST) {
            see(seen, bridge, way, "undo");
        } else if (way <= UNDO_MOST + 2 * IMAGES) {
            int image = (way - UNDO_MOST) % IMAGES;
            see(seen, bridge, 1, "back", image);
            see(seen, bridge, way <= UNDO_MOST + IMAGES ? 0 : UNDO_MOST, "undo");
        } else if (way == UNDO_MOST + 2 * IMAGES + 1) {
            see(seen, bridge, 1, "gorge");
        } else {
            see(seen, bridge, 1, "clear");
            for (char c : "p2 7;k0 3;".toCharArray()) {
                see(seen, bridge, 1, "type", c);
            }
            see(seen, bridge, 1, "gorge");
        }
        lookAround(seen, bridge);
        return seen.toString();
    }

    private static void lookAround(StringBuilder seen, Used bridge) {
        for (int what = 0; what <= 5; what++) {
            see(seen, bridge, 1, "count", what);
        }
        for (int what = 0; what <= 8; what++) {
            see(seen, bridge, 1, "now", what);
        }
        see(seen, bridge, 1, "trace");
        for (int what = 0; what <= 1; what++) {
            see(seen, bridge, 1, "drew", what);
            see(seen, bridge, 1, "night", what);
        }
        for (int p = 0; bridge.ask("person", p, 0) != WoolBridge.BAD; p++) {
            see(seen, bridge, 1, "person", p, 0);
            see(seen, bridge, 1, "person", p, 1);
        }
        for (int r = 0; bridge.ask("row", r, 0) != WoolBridge.BAD; r++) {
            see(seen, bridge, 1, "row", r, 0);
            see(seen, bridge, 1, "row", r, 1);
            see(seen, bridge, 1, "row", r, 2);
        }
    }

    private static void see(StringBuilder seen, Used bridge, int many, String name, int... given) {
        for (int i = 0; i < many; i++) {
            seen.append(' ').append(bridge.ask(name, given));
        }
    }
}
