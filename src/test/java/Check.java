/** What all tests of the project share: answers that are due, and bridges told by a text. */
final class Check {
    private static int wrong = 0;

    private Check() {
    }

    static void due(String call, long got, long want) {
        if (got != want) {
            wrong++;
            System.out.println(call + " answered " + got + ", due is " + want);
        }
    }

    static void type(WoolBridge bridge, String text) {
        for (int i = 0; i < text.length(); i++) {
            bridge.type(text.charAt(i));
        }
    }

    /** A bridge that has read the text, which must be without fault. */
    static WoolBridge told(String text) {
        WoolBridge bridge = new WoolBridge();
        type(bridge, text);
        int items = bridge.gorge();
        if (items < 0) {
            due("gorge() of '" + text + "'", items, 0);
        }
        return bridge;
    }

    static void times(int many, Runnable call) {
        for (int i = 0; i < many; i++) {
            call.run();
        }
    }

    static void end() {
        System.out.println(wrong == 0 ? "all answers are as due" : wrong + " answers are not as due");
        if (wrong != 0) {
            System.exit(1);
        }
    }
}
