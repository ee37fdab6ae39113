/** A bridge that is called by name, and no more often than the document lets it be called. */
final class Used {
    private static final int CALLS_MOST = 512;

    private final WoolBridge bridge = new WoolBridge();
    private int calls;

    int calls() {
        return calls;
    }

    long ask(String name, int... given) {
        calls++;
        if (calls > CALLS_MOST) {
            Check.due("calls on one object, at " + name, calls, CALLS_MOST);
        }
        switch (given.length) {
            case 0: return ofNothing(name);
            case 1: return ofOne(name, given[0]);
            case 2: return ofTwo(name, given[0], given[1]);
            default: return bridge.odds(given[0], given[1], given[2], given[3]);
        }
    }

    private long ofNothing(String name) {
        switch (name) {
            case "clear": return bridge.clear();
            case "gorge": return bridge.gorge();
            case "turnsBack": return bridge.turnsBack();
            case "year": return bridge.year();
            case "undo": return bridge.undo();
            case "lastOne": return bridge.lastOne();
            case "forget": return bridge.forget();
            case "trace": return bridge.trace();
            default: throw new IllegalArgumentException(name);
        }
    }

    private long ofOne(String name, int a) {
        switch (name) {
            case "type": return bridge.type(a);
            case "crosses": return bridge.crosses(a);
            case "drops": return bridge.drops(a);
            case "draws": return bridge.draws(a);
            case "rains": return bridge.rains(a);
            case "now": return bridge.now(a);
            case "crossings": return bridge.crossings(a);
            case "over": return bridge.over(a);
            case "drew": return bridge.drew(a);
            case "night": return bridge.night(a);
            case "keep": return bridge.keep(a);
            case "back": return bridge.back(a);
            case "count": return bridge.count(a);
            default: throw new IllegalArgumentException(name);
        }
    }

    private long ofTwo(String name, int a, int b) {
        switch (name) {
            case "person": return bridge.person(a, b);
            case "row": return bridge.row(a, b);
            case "order": return bridge.order(a, b);
            case "mend": return bridge.mend(a, b);
            case "plumbs": return bridge.plumbs(a, b);
            case "mark": return bridge.mark(a, b);
            default: throw new IllegalArgumentException(name);
        }
    }
}
