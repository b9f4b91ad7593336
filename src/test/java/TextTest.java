/** Promises 2 to 5: feed, end, text, fault. */
public final class TextTest {
    private static void faulty(String text, int place, int fault) {
        HorseSigns x = Check.told("marshal 1 2;");
        Check.due("text() of \"" + text + "\"", Check.tell(x, text), -10 - place);
        Check.due("fault() of \"" + text + "\"", x.fault(), fault);
        Check.due("the tape behind \"" + text + "\"", x.count(2), 0);
        Check.due("what was told stays: riders", x.rule(0), 1);
        Check.due("what was told stays: kind", x.rider(0, 0), 1);
    }

    private static void taken(String text, int lines) {
        HorseSigns x = new HorseSigns();
        Check.due("text() of \"" + text + "\"", Check.tell(x, text), lines);
        Check.due("fault() of \"" + text + "\"", x.fault(), 0);
        Check.due("the tape behind \"" + text + "\"", x.count(2), 0);
    }

    private static void feeding() {
        HorseSigns x = new HorseSigns();
        Check.due("feed(-1)", x.feed(-1), HorseSigns.BAD);
        Check.due("feed(128)", x.feed(128), HorseSigns.BAD);
        Check.due("feed(0)", x.feed(0), 1);
        Check.due("feed(127)", x.feed(127), 2);
        for (int i = 3; i <= 160; i++) {
            Check.due("feed(32)", x.feed(32), i);
        }
        Check.due("feed(32) on a full tape", x.feed(32), HorseSigns.FULL);
        Check.due("feed(128) on a full tape", x.feed(128), HorseSigns.BAD);
        Check.due("count(2)", x.count(2), 160);
        Check.due("end(161)", x.end(161), HorseSigns.BAD);
        Check.due("end(-1)", x.end(-1), HorseSigns.BAD);
        Check.due("end(160)", x.end(160), 160);
        Check.due("end(2)", x.end(2), 160);
        Check.due("end(3)", x.end(3), HorseSigns.BAD);
        Check.due("feed(32)", x.feed(32), 3);
        Check.due("end(0)", x.end(0), 3);
        Check.due("end(0)", x.end(0), 0);
        Check.due("text()", x.text(), 0);
    }

    private static void cutTape() {
        HorseSigns x = new HorseSigns();
        String text = "plain 1 2;rubbish";
        for (int i = 0; i < text.length(); i++) {
            x.feed(text.charAt(i));
        }
        Check.due("end(10)", x.end(10), 17);
        Check.due("text()", x.text(), 1);
        Check.due("rule(0)", x.rule(0), 1);
    }

    private static void wholeTape() {
        StringBuilder text = new StringBuilder();
        while (text.length() < 155) {
            text.append(' ');
        }
        faulty(text + "plain", 160, 2);
        taken(text + "     ", 0);
    }

    private static void goodTexts() {
        taken("", 0);
        taken("   ", 0);
        taken("plain 0 1;", 1);
        taken("plain0 1;", 1);
        taken("  plain 15 99  ;  ", 1);
        taken("bears 99;trust 0 0;trust 3 9;quiet 00 01;", 4);
        taken("on 0 0 0 0;on 99 3 4 3;plain 0 1;plain 0 1;plain 0 1;plain 0 1;plain 0 1;", 7);
        taken("plain 0 1;on 1 1 0 1;on 1 1 0 1;on 1 1 0 1;on 1 1 0 1;on 1 1 0 1;on 1 1 0 1;on 1 1 0 1;on 1 1 0 1;", 9);
    }

    private static void noTokens() {
        faulty("Plain 1 1;", 0, 1);
        faulty("\tplain 1 1;", 0, 1);
        faulty("plain 1,1;", 7, 1);
        faulty("plain -1 1;", 6, 1);
        faulty("plain 1 1;\u0000", 10, 1);
        faulty("plain 1 1;\u007f", 10, 1);
        faulty("plain 1 100;", 8, 1);
        faulty("plain 001 1;", 6, 1);
        faulty("123", 0, 1);
        faulty("plain 1 1 123;", 10, 1);
        faulty("`", 0, 1);
        faulty("{", 0, 1);
        faulty("plain /", 6, 1);
        faulty("plain :", 6, 1);
    }

    private static void misplacedTokens() {
        faulty("pony 1 1;", 0, 2);
        faulty("plai 1 1;", 0, 2);
        faulty("plainx 1 1;", 0, 2);
        faulty("plainz 1 1;", 0, 2);
        faulty("xlain 1 1;", 0, 2);
        faulty(";", 0, 2);
        faulty("1", 0, 2);
        faulty("plain 1 1;;", 10, 2);
        faulty("plain plain", 6, 2);
        faulty("plain 1;", 7, 2);
        faulty("plain 1 1 1;", 10, 2);
        faulty("plain 1 1", 9, 2);
        faulty("plain 1 1   ", 12, 2);
        faulty("plain", 5, 2);
        faulty("bears;", 5, 2);
        faulty("bears 1 1;", 8, 2);
        faulty("trust 1;", 7, 2);
        faulty("trust 1 1", 9, 2);
        faulty("on 1 1 1;", 8, 2);
        faulty("on 1 1 0 1 on", 11, 2);
    }

    private static void outOfBounds() {
        faulty("plain 16 1;", 6, 3);
        faulty("plain 1 0;", 8, 3);
        faulty("bears 0;", 6, 3);
        faulty("trust 4 1;", 6, 3);
        faulty("trust 1 10;", 8, 3);
        faulty("on 1 4 0 1;", 5, 3);
        faulty("on 1 1 5 1;", 7, 3);
        faulty("on 1 1 0 4;", 9, 3);
        faulty("on 1 1 5", 7, 3);
        faulty("plain 16 $", 6, 3);
    }

    private static void twice() {
        faulty("bears 1;bears 1;", 8, 4);
        faulty("bears 1;bears", 8, 4);
        faulty("bears 1;bears $", 8, 4);
        faulty("trust 1 1;trust 1 1;", 16, 4);
        faulty("trust 0 1;trust 0", 16, 4);
        faulty("trust 1 1;trust 4 1;", 16, 3);
        faulty("trust 3 1;trust 2 1;trust 1 1;trust 3 1;", 36, 4);
    }

    private static void tooMany() {
        faulty("plain 1 1;plain 1 1;plain 1 1;plain 1 1;plain 1 1;quiet", 50, 5);
        faulty("plain 1 1;plain 1 1;plain 1 1;plain 1 1;plain 1 1;pony", 50, 2);
        faulty("on 1 1 0 1;on 1 1 0 1;on 1 1 0 1;on 1 1 0 1;on 1 1 0 1;on 1 1 0 1;on 1 1 0 1;on 1 1 0 1;on $", 88, 5);
    }

    private static void missingRider() {
        faulty("on 1 1 0 1;", 11, 6);
        faulty("on 1 1 1 1;plain 1 1;  ", 23, 6);
        faulty("on 1 1 4 1;plain 1 1; $", 22, 1);
        taken("on 1 1 1 1;plain 1 1;plain 1 1;", 3);
    }

    private static void tellsAll() {
        HorseSigns x = Check.told("quiet 3 50;plain 1 9;bears 7;trust 1 5;on 0 1 0 3;");
        x.days(9);
        x.keep(0);
        x.keep(1);
        x.see(1, 1, 1);
        x.sheet(0, 2, 5);
        Check.due("rule(2)", x.rule(2), 9);
        Check.due("a text with a fault", Check.tell(x, "plain"), -15);
        Check.due("fault()", x.fault(), 2);
        Check.due("rule(2)", x.rule(2), 9);
        Check.due("count(0)", x.count(0), 1);
        Check.due("count(1)", x.count(1), 2);
        Check.due("a text that is taken", Check.tell(x, "usurper 2 8;"), 1);
        Check.due("fault()", x.fault(), 0);
        int[] rules = {1, 0, 0, 0, 25, 1, 1};
        for (int what = 0; what < rules.length; what++) {
            Check.due("rule(" + what + ")", x.rule(what), rules[what]);
        }
        Check.due("trust(1)", x.trust(1), 1);
        Check.due("count(0)", x.count(0), 0);
        Check.due("count(1)", x.count(1), 0);
        Check.due("count(3)", x.count(3), 5);
        Check.due("back(0)", x.back(0), HorseSigns.STATE);
    }

    public static void main(String[] args) {
        Check.due("fault() of a new object", new HorseSigns().fault(), 0);
        feeding();
        cutTape();
        wholeTape();
        goodTexts();
        noTokens();
        misplacedTokens();
        outOfBounds();
        twice();
        tooMany();
        missingRider();
        tellsAll();
        Check.finish("TextTest");
    }
}
