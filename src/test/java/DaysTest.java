/** Promises 16 to 20: days, runs, ahead, believed, agrees. */
public final class DaysTest {
    /** Rider 0 goes 0, 1, 3 up by days 2 and 3; rider 1 can not follow; of rider 2 nothing is told. */
    private static final String TEXT = "plain 0 50;plain 0 99;usurper 5 1;on 2 0 0 2;on 4 1 1 3;";

    private static void running() {
        HorseSigns x = Check.told(TEXT);
        Check.due("days(-1)", x.days(-1), HorseSigns.BAD);
        Check.due("days(31)", x.days(31), HorseSigns.BAD);
        Check.due("days(0)", x.days(0), 0);
        Check.due("days(2)", x.days(2), 0);
        Check.due("rule(2)", x.rule(2), 2);
        Check.due("rule(5) on day 2", x.rule(5), 6);
        Check.due("days(1)", x.days(1), 1);
        Check.due("rider(0, 1)", x.rider(0, 1), 1);
        Check.due("days(1)", x.days(1), 1);
        Check.due("rider(0, 1)", x.rider(0, 1), 3);
        Check.due("days(30)", x.days(30), 0);
        Check.due("rule(2)", x.rule(2), 34);
        Check.due("rule(3)", x.rule(3), 2);
        Check.due("rule(5)", x.rule(5), 5);
        Check.due("rider(1, 1)", x.rider(1, 1), 0);
        Check.due("rider(2, 1)", x.rider(2, 1), 5);
    }

    private static void lastDays() {
        HorseSigns x = Check.told("plain 0 9;on 99 0 0 3;");
        for (int i = 0; i < 33; i++) {
            Check.due("days(30)", x.days(30), i == 3 ? 3 : 0);
        }
        Check.due("rule(2)", x.rule(2), 990);
        Check.due("days(10)", x.days(10), HorseSigns.FULL);
        Check.due("days(31)", x.days(31), HorseSigns.BAD);
        Check.due("rule(2)", x.rule(2), 990);
        Check.due("days(9)", x.days(9), 0);
        Check.due("days(1)", x.days(1), HorseSigns.FULL);
        Check.due("days(0)", x.days(0), 0);
        Check.due("rule(2)", x.rule(2), 999);
        Check.due("runs(60, 1)", x.runs(60, 1), 1);
        Check.due("rider(0, 4)", x.rider(0, 4), 3);
    }

    /** Which leg: the first that brings it nearer and lets it stand, up or down. */
    private static void whichHoof() {
        String[] texts = {"plain 1 25;on 0 0 0 3;", "plain 14 1;on 0 0 0 0;", "plain 15 1;on 0 0 0 2;",
            "marshal 0 1;on 0 0 0 1;", "marshal 8 1;on 0 0 0 2;", "usurper 0 75;on 0 0 0 0;",
            "usurper 3 99;on 0 0 0 3;", "quiet 0 1;on 0 0 0 3;", "quiet 1 1;on 0 0 0 3;",
            "quiet 1 1;on 0 0 0 0;", "quiet 7 1;on 0 0 0 3;", "plain 7 25;on 0 0 0 0;", "plain 15 25;on 0 0 0 0;",
            "plain 3 99;on 0 0 0 0;", "quiet 3 1;on 0 0 0 1;"};
        int[] ups = {3, 12, 15, 0, 9, 1, 3, 0, 3, 1, 6, 6, 15, 3, 2};
        for (int i = 0; i < texts.length; i++) {
            HorseSigns x = Check.told(texts[i]);
            int was = x.rider(0, 1);
            Check.due("days(1) of " + texts[i], x.days(1), ups[i] == was ? 0 : 1);
            Check.due("rider(0, 1) then of " + texts[i], x.rider(0, 1), ups[i]);
        }
    }

    private static void runsAhead() {
        HorseSigns x = Check.told(TEXT);
        int[][] due = {{0, 0, 7, 0, HorseSigns.NONE}, {2, 0, 6, 0, HorseSigns.NONE}, {3, 1, 6, 1, 3},
            {4, 2, 5, 2, 3}, {60, 2, 5, 2, 3}};
        for (int[] d : due) {
            for (int what = 0; what < 4; what++) {
                Check.due("runs(" + d[0] + ", " + what + ")", x.runs(d[0], what), d[what + 1]);
            }
        }
        Check.due("rule(2) is as it was", x.rule(2), 0);
        Check.due("rule(3) is as it was", x.rule(3), 0);
        Check.due("runs(-1, 0)", x.runs(-1, 0), HorseSigns.BAD);
        Check.due("runs(61, 0)", x.runs(61, 0), HorseSigns.BAD);
        Check.due("runs(1, -1)", x.runs(1, -1), HorseSigns.BAD);
        Check.due("runs(1, 4)", x.runs(1, 4), HorseSigns.BAD);
        HorseSigns two = Check.told("plain 0 9;plain 0 9;on 0 0 0 1;on 0 0 1 2;");
        Check.due("two riders: clangs", two.runs(9, 0), 3);
        Check.due("two riders: loud days", two.runs(9, 2), 2);
        Check.due("two riders: the first", two.runs(9, 3), 1);
    }

    private static void oneAhead() {
        HorseSigns x = Check.told(TEXT);
        int[][] due = {{0, 0, 0, 0}, {0, 2, 0, 0}, {0, 3, 1, 1}, {0, 4, 3, 2}, {0, 60, 3, 2},
            {1, 60, 0, 0}, {2, 60, 5, 1}};
        for (int[] d : due) {
            Check.due("ahead(" + d[0] + ", " + d[1] + ", 0)", x.ahead(d[0], d[1], 0), d[2]);
            Check.due("ahead(" + d[0] + ", " + d[1] + ", 1)", x.ahead(d[0], d[1], 1), d[3]);
        }
        Check.due("ahead(3, 0, 0)", x.ahead(3, 0, 0), HorseSigns.BAD);
        Check.due("ahead(-1, 0, 0)", x.ahead(-1, 0, 0), HorseSigns.BAD);
        Check.due("ahead(0, -1, 0)", x.ahead(0, -1, 0), HorseSigns.BAD);
        Check.due("ahead(0, 61, 0)", x.ahead(0, 61, 0), HorseSigns.BAD);
        Check.due("ahead(0, 0, 2)", x.ahead(0, 0, 2), HorseSigns.BAD);
        Check.due("ahead(0, 0, -1)", x.ahead(0, 0, -1), HorseSigns.BAD);
        Check.due("rider(0, 1) is as it was", x.rider(0, 1), 0);
    }

    private static void believing() {
        HorseSigns x = Check.told("plain 0 1;plain 0 1;trust 0 3;trust 1 2;trust 2 0;"
                + "on 5 0 0 2;on 3 1 0 1;on 7 1 0 1;on 9 1 0 0;on 9 3 0 0;on 4 2 1 3;");
        int[] days = {0, 2, 3, 4, 5, 6, 7, 8, 9, 99};
        int none = HorseSigns.NONE;
        int[] due = {none, none, 1, 1, 2, 2, 1, 1, 1, 1};
        for (int i = 0; i < days.length; i++) {
            Check.due("believed(0, " + days[i] + ")", x.believed(0, days[i]), due[i]);
        }
        x.rely(3, 2);
        Check.due("of several the least", x.believed(0, 9), 0);
        Check.due("trust of 0 tells nothing", x.believed(1, 99), none);
        Check.due("believed(2, 0)", x.believed(2, 0), HorseSigns.BAD);
        Check.due("believed(-1, 0)", x.believed(-1, 0), HorseSigns.BAD);
        Check.due("believed(0, 100)", x.believed(0, 100), HorseSigns.BAD);
        Check.due("believed(0, -1)", x.believed(0, -1), HorseSigns.BAD);
    }

    private static void agreeing() {
        HorseSigns x = Check.told(TEXT);
        Check.due("agrees(0)", x.agrees(0), 0);
        x.days(2);
        Check.due("agrees(0) on day 2", x.agrees(0), 2);
        Check.due("agrees(1) on day 2", x.agrees(1), 0);
        x.days(2);
        Check.due("agrees(0) on day 4", x.agrees(0), 0);
        Check.due("agrees(1) on day 4", x.agrees(1), HorseSigns.NONE);
        Check.due("agrees(2) on day 4", x.agrees(2), 0);
        Check.due("agrees(3)", x.agrees(3), HorseSigns.BAD);
        Check.due("agrees(-1)", x.agrees(-1), HorseSigns.BAD);
        HorseSigns late = Check.told("plain 0 99;trust 1 2;on 0 0 0 3;on 60 1 0 0;");
        Check.due("behind 60", late.agrees(0), 60);
        late.burn(1);
        late.send(61, 1, 0, 0);
        Check.due("behind 61", late.agrees(0), HorseSigns.NONE);
    }

    public static void main(String[] args) {
        running();
        lastDays();
        whichHoof();
        runsAhead();
        oneAhead();
        believing();
        agreeing();
        Check.finish("DaysTest");
    }
}
