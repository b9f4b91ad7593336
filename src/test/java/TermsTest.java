/** The document's terms: a test for each sentence of them that names an edge, with the sentence above it. */
public final class TermsTest {
    private static final int NONE = HorseSigns.NONE, BAD = HorseSigns.BAD;
    private static final String[] KINDS = {"plain", "marshal", "usurper", "quiet"};
    private static final String FIVE = "plain 0 1;plain 0 1;plain 0 1;plain 0 1;plain 0 1;";

    private static String times(int n, String part) {
        return part.repeat(n);
    }

    private static void taken(String text, int lines) {
        HorseSigns x = new HorseSigns();
        Check.due("text() of \"" + text + "\"", Check.tell(x, text), lines);
        Check.due("fault() of \"" + text + "\"", x.fault(), 0);
    }

    private static void faulty(String text, int fault, int place) {
        HorseSigns x = new HorseSigns();
        Check.due("text() of \"" + text + "\"", Check.tell(x, text), -10 - place);
        Check.due("fault() of \"" + text + "\"", x.fault(), fault);
        Check.due("riders behind \"" + text + "\"", x.rule(0), 0);
    }

    /** "Fractions are in lowest terms, the denominator above 0 (0 is 0 by 1)." */
    private static void fractions() {
        HorseSigns x = Check.told("plain 0 1;plain 0 1;on 0 0 0 1;on 0 1 1 1;");
        long[][] due = {{0, 1, 1}, {1, 9, 10}, {2, 4, 5}, {3, 7, 10}, {4, 3, 5}, {5, 1, 2}, {6, 2, 5}, {8, 1, 5},
            {9, 1, 10}, {10, 0, 1}};
        for (long[] d : due) {
            int v = (int) d[0];
            Check.due("luck by " + v + " above", x.luck(v, 0, 1, 0, 0), d[1]);
            Check.due("luck by " + v + " below", x.luck(v, 0, 1, 0, 1), d[2]);
            Check.due("mean by " + v + " above", x.mean(v, 1, 0), d[2] % 2 == 0 ? d[1] : 2 * d[1]);
            Check.due("mean by " + v + " below", x.mean(v, 1, 1), d[2] % 2 == 0 ? d[2] / 2 : d[2]);
        }
        Check.due("0 above", x.luck(3, 0, 2, 0, 0), 0);
        Check.due("0 below", x.luck(3, 0, 2, 0, 1), 1);
        Check.due("a mean of 0 below", x.mean(3, 0, 1), 1);
    }

    /** "RIDERS (5 at most)", "5 the 6th RIDER (its NAME)". */
    private static void ridersAtMost() {
        taken(FIVE, 5);
        HorseSigns x = Check.told(FIVE);
        Check.due("rule(0)", x.rule(0), 5);
        Check.due("rider(4, 2)", x.rider(4, 2), 1);
        Check.due("rider(5, 2)", x.rider(5, 2), BAD);
        for (String kind : KINDS) {
            faulty(FIVE + kind + " 0 1;", 5, 50);
            faulty(FIVE + " " + kind + "$", 5, 51);
        }
        faulty(FIVE + "bears 9;trust 0 1;quiet", 5, 68);
    }

    /** "each of a KIND (0 plain, 1 marshal, 2 usurper, 3 quiet)". */
    private static void kinds() {
        for (int kind = 0; kind < 4; kind++) {
            Check.due("the kind of " + KINDS[kind], Check.told(KINDS[kind] + " 0 1;").rider(0, 0), kind);
        }
    }

    /** "legs UP (of four, as bits: 0 to 15), of a WEIGHT (1 to 99)". */
    private static void upAndWeight() {
        HorseSigns x = Check.told("plain 0 1;plain 15 99;");
        Check.due("UP", x.rider(0, 1), 0);
        Check.due("WEIGHT", x.rider(0, 2), 1);
        Check.due("UP", x.rider(1, 1), 15);
        Check.due("WEIGHT", x.rider(1, 2), 99);
        faulty("plain 16 1;", 3, 6);
        faulty("plain 99 1;", 3, 6);
        faulty("plain 0 0;", 3, 8);
        faulty("plain 0 00;", 3, 8);
    }

    /** "A leg BEARS so much (1 to 99; 25 at first)." */
    private static void bearing() {
        Check.due("BEARS at first", new HorseSigns().rule(4), 25);
        Check.due("BEARS, not told", Check.told("plain 0 1;").rule(4), 25);
        Check.due("BEARS 1", Check.told("bears 1;").rule(4), 1);
        Check.due("BEARS 99", Check.told("bears 99;").rule(4), 99);
        faulty("bears 0;", 3, 6);
        faulty("bears 00;", 3, 6);
    }

    /** "REPORTERS 0 to 3, each with a TRUST (0 to 9; 1 at first)." */
    private static void reporters() {
        HorseSigns x = Check.told("trust 0 0;trust 3 9;");
        int[] due = {0, 1, 1, 9};
        for (int r = 0; r < 4; r++) {
            Check.due("TRUST at first", new HorseSigns().trust(r), 1);
            Check.due("TRUST of " + r, x.trust(r), due[r]);
        }
        faulty("trust 4 1;", 3, 6);
        faulty("trust 0 10;", 3, 8);
    }

    /** "REPORTS (8 at most)", "5 the 9th on (its NAME)". */
    private static void reportsAtMost() {
        String eight = times(8, "on 0 0 0 0;");
        taken("plain 0 1;" + eight, 9);
        HorseSigns x = Check.told("plain 0 1;" + eight);
        Check.due("rule(1)", x.rule(1), 8);
        Check.due("report(7, 3)", x.report(7, 3), 0);
        Check.due("report(8, 3)", x.report(8, 3), BAD);
        faulty("plain 0 1;" + eight + "on 0 0 0 0;", 5, 98);
        faulty(eight + "  on$", 5, 90);
        faulty(eight + "plain 0 1;on", 5, 98);
    }

    /** "of a DAY (0 to 99), by a REPORTER, on a RIDER (0 to 4), an END (0 to 3)". */
    private static void reportBounds() {
        HorseSigns x = Check.told(FIVE + "on 0 0 0 0;on 99 3 4 3;");
        int[][] due = {{0, 0, 0, 0}, {99, 3, 4, 3}};
        for (int i = 0; i < 2; i++) {
            for (int what = 0; what < 4; what++) {
                Check.due("report(" + i + ", " + what + ")", x.report(i, what), due[i][what]);
            }
        }
        faulty("on 0 4 0 0;", 3, 5);
        faulty("on 0 0 5 0;", 3, 7);
        faulty("on 0 0 0 4;", 3, 9);
    }

    /** "plain as many (3 at most); marshal 1 less (0 at least); usurper 3 less that; quiet .. leaves by 4". */
    private static void readings() {
        int[] poses = {0, 8, 6, 13, 15};
        int[][] due = {{0, 1, 2, 3, 3}, {0, 0, 1, 2, 2}, {3, 2, 1, 0, 0}, {2, 2, 3, 0, 0}};
        for (int kind = 0; kind < 4; kind++) {
            for (int legs = 0; legs < 5; legs++) {
                HorseSigns x = Check.told(KINDS[kind] + " " + poses[legs] + " 1;");
                Check.due(KINDS[kind] + " with " + legs + " up reads", x.rider(0, 3), due[kind][legs]);
            }
        }
    }

    /** "A RIDER STANDS, if its WEIGHT is no more than the legs that are not UP BEAR together." */
    private static void standing() {
        int[] poses = {0, 2, 10, 14, 15};
        for (int legs = 0; legs < 5; legs++) {
            HorseSigns x = Check.told("plain " + poses[legs] + " 1;bears 7;");
            int most = 7 * (4 - legs);
            if (most > 0) {
                x.alter(0, 2, most);
                Check.due(most + " on " + (4 - legs), x.rider(0, 5), 1);
                Check.due("need of " + most + " on " + (4 - legs), x.need(), 7);
            }
            x.alter(0, 2, most + 1);
            Check.due(most + 1 + " on " + (4 - legs), x.rider(0, 5), 0);
            Check.due("rule(6)", x.rule(6), 0);
        }
    }

    /** "of that DAY and of those ahead of it". */
    private static void beliefByDay() {
        HorseSigns x = Check.told("plain 0 1;trust 1 2;trust 2 3;on 5 0 0 1;on 0 1 0 2;on 99 2 0 3;on 5 1 0 1;");
        int[][] due = {{0, 2}, {4, 2}, {5, 1}, {6, 1}, {98, 1}, {99, 1}};
        for (int[] d : due) {
            Check.due("believed(0, " + d[0] + ")", x.believed(0, d[0]), d[1]);
        }
        x.rely(2, 4);
        Check.due("believed(0, 98)", x.believed(0, 98), 1);
        Check.due("believed(0, 99)", x.believed(0, 99), 3);
        for (int i = 0; i < 5; i++) {
            x.days(20);
            Check.due("BELIEVED on day " + x.rule(2), x.rider(0, 4), i == 4 ? 3 : 1);
        }
    }

    /** "is most, summed by END, of several the least". */
    private static void beliefOfSeveral() {
        for (int a = 0; a < 4; a++) {
            for (int b = 0; b < 4; b++) {
                HorseSigns x = Check.told("plain 0 1;plain 0 1;");
                x.send(0, 0, 0, a);
                x.send(0, 1, 0, b);
                x.send(0, 2, 1, 3);
                Check.due("of " + a + " and " + b, x.believed(0, 0), Math.min(a, b));
                x.rely(1, 2);
                Check.due("of " + a + " and twice " + b, x.believed(0, 0), b);
            }
        }
        HorseSigns sums = Check.told("plain 0 1;trust 0 3;trust 1 2;on 0 0 0 0;on 0 1 0 3;on 0 1 0 3;");
        Check.due("summed", sums.believed(0, 0), 3);
    }

    /** "none, if all sums are 0", "It AGREES, if BELIEVED is what it READS, or is none". */
    private static void beliefOfNone() {
        HorseSigns x = Check.told("plain 15 99;plain 0 1;plain 1 1;plain 1 1;trust 0 0;"
                + "on 0 0 1 3;on 1 1 2 0;on 0 1 3 1;");
        int[] today = {NONE, NONE, NONE, 1};
        for (int h = 0; h < 4; h++) {
            Check.due("believed(" + h + ", 0)", x.believed(h, 0), today[h]);
            Check.due("agrees(" + h + ")", x.agrees(h), 0);
        }
        Check.due("which AGREE on day 0", x.rule(5), 15);
        x.days(1);
        Check.due("which AGREE on day 1", x.rule(5), 11);
    }

    /** "THE TAPE has 160 bytes, places from 0." */
    private static void tape() {
        faulty("$", 1, 0);
        faulty(times(159, " ") + "$", 1, 159);
        faulty(times(158, " ") + "on", 2, 160);
        faulty(times(149, " ") + "on 0 0 0 0;", 6, 160);
        taken(times(150, " ") + "plain 0 1;", 1);
        HorseSigns x = new HorseSigns();
        Check.tell(x, times(160, " "));
        Check.due("the tape is empty then: feed(32)", x.feed(32), 1);
    }

    /** "TOKENS, each as long as may be, blanks (32) between". */
    private static void tokens() {
        taken("plain 0 1;plain 0 1;", 2);
        taken("plain0 1;on0 0 0 0;", 2);
        taken("   plain    0     1   ;   ", 1);
        taken("plain 00 01;bears 01;trust 00 00;on 00 00 00 00;", 4);
        faulty("plainplain 0 1;", 2, 0);
        faulty("plain 01;", 2, 8);
        faulty("pla in 0 1;", 2, 0);
        faulty("plain 0 1 ;;", 2, 11);
        faulty("plain 0 1 2;", 2, 10);
        for (char c : new char[] {0, 9, 10, 13, 31, 33, 127}) {
            faulty("plain" + c + "0 1;", 1, 5);
        }
    }

    /** "NAMES (a .. z), NUMBERS (1 or 2 figures), one ;": those on either side of these are no TOKEN. */
    private static void signs() {
        for (char c : new char[] {'`', '{', 'A', 'Z', '/', ':', '<', '-', '+', '.', ','}) {
            faulty("" + c, 1, 0);
            faulty("plain " + c, 1, 6);
            faulty("plain 0 1" + c, 1, 9);
            faulty("plain 0 1; " + c, 1, 11);
        }
        for (String name : new String[] {"a", "z", "abcdefghijklmnopqrstuvwxyz"}) {
            faulty(name, 2, 0);
            faulty("plain " + name, 2, 6);
        }
        HorseSigns x = Check.told("plain 09 90;plain 12 34;plain 8 56;plain 7 78;");
        int[][] due = {{9, 90}, {12, 34}, {8, 56}, {7, 78}};
        for (int h = 0; h < 4; h++) {
            Check.due("UP of " + h, x.rider(h, 1), due[h][0]);
            Check.due("WEIGHT of " + h, x.rider(h, 2), due[h][1]);
        }
    }

    /** "1 no TOKEN, a NUMBER that is too long (its first byte)." */
    private static void tooLong() {
        faulty("000", 1, 0);
        faulty("plain 000 1;", 1, 6);
        faulty("plain 0 100;", 1, 8);
        faulty("plain0001;", 1, 5);
        faulty("plain 0 1 100;", 1, 10);
        faulty("plain 0 1;  123", 1, 12);
        faulty("plain " + times(150, "1"), 1, 6);
    }

    /** "2 a TOKEN that can not stand there (a NAME that begins no line; or the end: the length)." */
    private static void misplaced() {
        String[] lines = {"plain 0 1;", "bears 1;", "trust 0 1;", "on 0 0 0 0;"};
        for (String line : lines) {
            for (int n = 1; n < line.length(); n++) {
                faulty(line.substring(0, n), 2, n >= line.indexOf(' ') ? n : 0);
            }
        }
        faulty(lines[0] + "  plain  0  ", 2, 22);
        faulty("pony 0 1;", 2, 0);
        for (String name : new String[] {"xlain", "plaix", "parshal", "marshax", "msurper", "usurpex", "luiet", "quiex"}) {
            faulty(name + " 0 1;", 2, 0);
            faulty(name.substring(1) + " 0 1;", 2, 0);
            faulty(name + "s 0 1;", 2, 0);
        }
        for (String name : new String[] {"fears", "bearz", "crust", "trusz", "an", "ox", "o", "n", "onn", "bear", "trusts"}) {
            faulty(name + " 0 1 0 0;", 2, 0);
        }
        faulty(lines[0] + " ons 0 0 0 0;", 2, 11);
        faulty(lines[0] + "7 0 1;", 2, 10);
        faulty(lines[0] + ";", 2, 10);
        faulty("plain ; 1;", 2, 6);
        faulty("plain 0 ;", 2, 8);
        faulty("plain 0 1 on 0", 2, 10);
        faulty("on 0 0 0;", 2, 8);
        faulty("trust trust 1;", 2, 6);
        faulty("bears bears;", 2, 6);
    }

    /** "the first met as it is read (a TOKEN is read when the one before has been taken)". */
    private static void firstMet() {
        faulty("plain 16 $", 3, 6);
        faulty("plain 16 000", 3, 6);
        faulty("plain 0 0", 3, 8);
        faulty("bears 0 $", 3, 6);
        faulty("bears 1;bears $", 4, 8);
        faulty("bears 1;bears 000;", 4, 8);
        faulty("trust 0 1;trust 0 $", 4, 16);
        faulty("trust 0 1;trust 0 99;", 4, 16);
        faulty("trust 4 $", 3, 6);
        faulty(FIVE + "plain 99 $", 5, 50);
        faulty(times(8, "on 0 0 0 0;") + "on 0 9 $", 5, 88);
        faulty("on 0 0 1 0;plain 0 1;$", 1, 21);
        faulty("on 0 0 1 0;plain 0 1;x", 2, 21);
        faulty("on 0 0 1 0;plain 0 0;", 3, 19);
    }

    /** "4 bears for the second time (its NAME); a REPORTER whose TRUST is told already (it)." */
    private static void twice() {
        faulty("bears 1;bears 1;", 4, 8);
        faulty("bears 1;plain 0 1;  bears 2;", 4, 20);
        for (int r = 0; r < 4; r++) {
            faulty("trust " + r + " 1;trust  " + r + " 1;", 4, 17);
            faulty("trust 0 1;trust 1 1;trust 2 1;trust 3 1;trust 0" + r + " 2;", 4, 46);
        }
        taken("trust 0 1;trust 1 1;trust 2 1;trust 3 1;bears 1;", 5);
        HorseSigns x = Check.told("bears 1;trust 0 2;");
        Check.due("a text anew may tell it again", Check.tell(x, "bears 2;trust 0 3;"), 2);
    }

    /** "Behind all (the length): 6 a RIDER that there is not." */
    private static void missingRider() {
        faulty("on 0 0 0 0;", 6, 11);
        faulty("on 0 0 0 0;   ", 6, 14);
        for (int riders = 1; riders < 5; riders++) {
            String some = times(riders, "plain 0 1;");
            taken("on 0 0 " + (riders - 1) + " 0;" + some, riders + 1);
            faulty("on 0 0 " + riders + " 0;" + some, 6, 11 + 10 * riders);
            faulty(some + "on 0 0 0 0;on 0 0 " + riders + " 0;on 0 0 0 0;", 6, 33 + 10 * riders);
        }
        taken("on 0 0 4 0;" + FIVE, 6);
    }

    /** "A text that is taken tells all, in place of what there was; nothing is SEEN; IMAGES are gone." */
    private static void tellsAll() {
        HorseSigns x = Check.told("quiet 0 9;marshal 0 9;bears 30;trust 0 5;trust 3 0;on 0 0 0 3;on 9 0 1 2;");
        x.days(4);
        x.see(1, 1, 1);
        x.keep(0);
        x.keep(1);
        x.sheet(0, 1, 7);
        Check.due("an empty text", x.text(), 0);
        int[] rules = {0, 0, 0, 0, 25, 0, 0};
        for (int what = 0; what < rules.length; what++) {
            Check.due("rule(" + what + ") behind an empty text", x.rule(what), rules[what]);
        }
        int[] counts = {0, 0, 0, 7, 0, 4};
        for (int what = 0; what < counts.length; what++) {
            Check.due("count(" + what + ") behind an empty text", x.count(what), counts[what]);
        }
        for (int k = 0; k < 2; k++) {
            Check.due("back(" + k + ")", x.back(k), HorseSigns.STATE);
            Check.due("keep(" + k + ")", x.keep(k), 0);
        }
        Check.tell(x, "plain 3 4;");
        Check.due("ups(0): nothing is SEEN", x.ups(0), 65535);
        Check.due("report(0, 0): none is left", x.report(0, 0), BAD);
        Check.due("rider(1, 0): none is left", x.rider(1, 0), BAD);
    }

    /** The same, behind questions that tried out days and left reports out. */
    private static void tellsAllBehindQuestions() {
        HorseSigns x = Check.told("plain 0 9;on 0 0 0 3;");
        x.days(2);
        x.lose(30, 0);
        x.luck(5, 0, 3, 9, 0);
        x.mean(5, 9, 0);
        Check.due("a text", Check.tell(x, "plain 0 1;on 0 0 0 1;on 0 0 0 2;on 0 0 0 2;"), 4);
        Check.due("DAY", x.rule(2), 0);
        Check.due("CLANGS", x.rule(3), 0);
        Check.due("all its reports are heard", x.believed(0, 0), 2);
        Check.due("told(0, 1, 0)", x.told(0, 1, 0), 1);
        Check.due("told(0, 2, 0)", x.told(0, 2, 0), 2);
    }

    public static void main(String[] args) {
        fractions();
        ridersAtMost();
        kinds();
        upAndWeight();
        bearing();
        reporters();
        reportsAtMost();
        reportBounds();
        readings();
        standing();
        beliefByDay();
        beliefOfSeveral();
        beliefOfNone();
        tape();
        tokens();
        signs();
        tooLong();
        misplaced();
        firstMet();
        twice();
        missingRider();
        tellsAll();
        tellsAllBehindQuestions();
        Check.finish("TermsTest");
    }
}
