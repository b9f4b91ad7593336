/** What the tests share: answers compared, texts fed letter by letter, and the end of a test. */
final class Check {
    private static int asked = 0;
    private static int wrong = 0;

    private Check() {
    }

    static void due(String call, long got, long want) {
        asked++;
        if (got != want) {
            wrong++;
            System.out.println(call + " answered " + got + ", due is " + want);
        }
    }

    static void same(String what, String got, String want) {
        asked++;
        if (!got.equals(want)) {
            wrong++;
            System.out.println(what + ": " + got + "\n  due is: " + want);
        }
    }

    /** Feeds a text and reads it: what text() answers. */
    static int tell(HorseSigns x, String text) {
        for (int i = 0; i < text.length(); i++) {
            due("feed(" + (int) text.charAt(i) + ")", x.feed(text.charAt(i)), i + 1);
        }
        return x.text();
    }

    /** A new object that a text without a fault was told to. */
    static HorseSigns told(String text) {
        HorseSigns x = new HorseSigns();
        int lines = tell(x, text);
        due("fault() of \"" + text + "\"", x.fault(), 0);
        due("whether lines are counted of \"" + text + "\"", lines >= 0 ? 1 : 0, 1);
        return x;
    }

    static void finish(String test) {
        System.out.println(test + ": " + asked + " answers, " + wrong + " not as due");
        if (wrong != 0) {
            System.exit(1);
        }
    }
}
