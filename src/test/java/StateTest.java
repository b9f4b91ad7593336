/** Promises 1, 6 to 15 and 43: a new object, what there is, what is changed, count. */
public final class StateTest {
    private static final String TEXT =
            "plain 0 60;marshal 3 40;usurper 7 20;quiet 15 90;plain 15 1;bears 20;trust 0 5;trust 2 0;"
            + "on 1 0 0 2;on 0 1 0 1;on 0 2 1 3;on 0 3 2 0;";

    private static void aNewObject() {
        HorseSigns x = new HorseSigns();
        int[] rules = {0, 0, 0, 0, 25, 0, 0};
        for (int what = 0; what < rules.length; what++) {
            Check.due("new: rule(" + what + ")", x.rule(what), rules[what]);
        }
        for (int r = 0; r < 4; r++) {
            Check.due("new: trust(" + r + ")", x.trust(r), 1);
            Check.due("new: lay(" + r + ", 0, 0)", x.lay(r, 0, 0), -11);
        }
        int[] counts = {0, 0, 0, HorseSigns.NONE, 0, 4};
        for (int what = 0; what < counts.length; what++) {
            Check.due("new: count(" + what + ")", x.count(what), counts[what]);
        }
        Check.due("new: rider(0, 0)", x.rider(0, 0), HorseSigns.BAD);
        Check.due("new: report(0, 0)", x.report(0, 0), HorseSigns.BAD);
        Check.due("new: torn()", x.torn(), 0);
        Check.due("new: back(0)", x.back(0), HorseSigns.STATE);
    }

    private static void rules() {
        HorseSigns x = Check.told(TEXT);
        int[] rules = {5, 4, 0, 0, 20, 2 + 4 + 8 + 16, 1 + 2 + 4};
        for (int what = 0; what < rules.length; what++) {
            Check.due("rule(" + what + ")", x.rule(what), rules[what]);
        }
        Check.due("rule(-1)", x.rule(-1), HorseSigns.BAD);
        Check.due("rule(7)", x.rule(7), HorseSigns.BAD);
    }

    private static void readings() {
        int[][] due = {{0, 1, 2, 3, 3}, {0, 0, 1, 2, 2}, {3, 2, 1, 0, 0}, {2, 2, 3, 0, 0}};
        HorseSigns x = Check.told("plain 0 1;");
        for (int kind = 0; kind < 4; kind++) {
            x.alter(0, 0, kind);
            for (int up = 0; up < 16; up++) {
                x.alter(0, 1, up);
                Check.due("kind " + kind + " with " + up + " up: rider(0, 3)", x.rider(0, 3),
                        due[kind][Integer.bitCount(up)]);
            }
        }
    }

    private static void riders() {
        HorseSigns x = Check.told(TEXT);
        int none = HorseSigns.NONE;
        int[][] due = {{0, 0, 60, 0, 1, 1}, {1, 3, 40, 1, none, 1}, {2, 7, 20, 0, 0, 1},
            {3, 15, 90, 0, none, 0}, {0, 15, 1, 3, none, 0}};
        for (int h = 0; h < due.length; h++) {
            for (int what = 0; what < 6; what++) {
                Check.due("rider(" + h + ", " + what + ")", x.rider(h, what), due[h][what]);
            }
            Check.due("rider(" + h + ", -1)", x.rider(h, -1), HorseSigns.BAD);
            Check.due("rider(" + h + ", 6)", x.rider(h, 6), HorseSigns.BAD);
        }
        Check.due("rider(-1, 0)", x.rider(-1, 0), HorseSigns.BAD);
        Check.due("rider(5, 0)", x.rider(5, 0), HorseSigns.BAD);
    }

    private static void standingAtTheEdge() {
        HorseSigns x = Check.told("plain 1 75;plain 1 76;");
        Check.due("75 on three legs", x.rider(0, 5), 1);
        Check.due("76 on three legs", x.rider(1, 5), 0);
        Check.due("rule(6)", x.rule(6), 1);
    }

    private static void reports() {
        HorseSigns x = Check.told(TEXT);
        int[][] due = {{1, 0, 0, 2}, {0, 1, 0, 1}, {0, 2, 1, 3}, {0, 3, 2, 0}};
        for (int i = 0; i < due.length; i++) {
            for (int what = 0; what < 4; what++) {
                Check.due("report(" + i + ", " + what + ")", x.report(i, what), due[i][what]);
            }
        }
        Check.due("report(4, 0)", x.report(4, 0), HorseSigns.BAD);
        Check.due("report(-1, 0)", x.report(-1, 0), HorseSigns.BAD);
        Check.due("report(0, 4)", x.report(0, 4), HorseSigns.BAD);
        Check.due("report(0, -1)", x.report(0, -1), HorseSigns.BAD);
    }

    private static void trustAndTold() {
        HorseSigns x = Check.told(TEXT);
        int[] trusts = {5, 1, 0, 1};
        for (int r = 0; r < 4; r++) {
            Check.due("trust(" + r + ")", x.trust(r), trusts[r]);
        }
        Check.due("trust(-1)", x.trust(-1), HorseSigns.BAD);
        Check.due("trust(4)", x.trust(4), HorseSigns.BAD);
        Check.due("told(0, 2, 0)", x.told(0, 2, 0), 0);
        Check.due("told(0, 2, 1)", x.told(0, 2, 1), 5);
        Check.due("told(0, 2, 99)", x.told(0, 2, 99), 5);
        Check.due("told(0, 1, 0)", x.told(0, 1, 0), 1);
        Check.due("told(1, 3, 99)", x.told(1, 3, 99), 0);
        Check.due("send(7, 1, 0, 2)", x.send(7, 1, 0, 2), 5);
        Check.due("told(0, 2, 6)", x.told(0, 2, 6), 5);
        Check.due("told(0, 2, 7)", x.told(0, 2, 7), 6);
        Check.due("told(5, 0, 0)", x.told(5, 0, 0), HorseSigns.BAD);
        Check.due("told(-1, 0, 0)", x.told(-1, 0, 0), HorseSigns.BAD);
        Check.due("told(0, 4, 0)", x.told(0, 4, 0), HorseSigns.BAD);
        Check.due("told(0, -1, 0)", x.told(0, -1, 0), HorseSigns.BAD);
        Check.due("told(0, 0, 100)", x.told(0, 0, 100), HorseSigns.BAD);
        Check.due("told(0, 0, -1)", x.told(0, 0, -1), HorseSigns.BAD);
    }

    private static void altering() {
        HorseSigns x = Check.told(TEXT);
        int[][] bounds = {{0, 3}, {0, 15}, {1, 99}};
        for (int what = 0; what < 3; what++) {
            int was = x.rider(1, what);
            Check.due("alter under", x.alter(1, what, bounds[what][0] - 1), HorseSigns.BAD);
            Check.due("alter above", x.alter(1, what, bounds[what][1] + 1), HorseSigns.BAD);
            Check.due("unchanged", x.rider(1, what), was);
            Check.due("alter to the least", x.alter(1, what, bounds[what][0]), was);
            Check.due("alter to the most", x.alter(1, what, bounds[what][1]), bounds[what][0]);
            Check.due("altered", x.rider(1, what), bounds[what][1]);
        }
        Check.due("it need not stand", x.rider(1, 5), 0);
        Check.due("rider 0 is as it was", x.rider(0, 2), 60);
        Check.due("alter(5, 0, 0)", x.alter(5, 0, 0), HorseSigns.BAD);
        Check.due("alter(-1, 0, 0)", x.alter(-1, 0, 0), HorseSigns.BAD);
        Check.due("alter(0, 3, 1)", x.alter(0, 3, 1), HorseSigns.BAD);
        Check.due("alter(0, -1, 1)", x.alter(0, -1, 1), HorseSigns.BAD);
    }

    private static void relyingAndCasting() {
        HorseSigns x = Check.told(TEXT);
        Check.due("rely(0, 0)", x.rely(0, 0), 5);
        Check.due("rely(0, 9)", x.rely(0, 9), 0);
        Check.due("trust(0)", x.trust(0), 9);
        Check.due("rely(0, 10)", x.rely(0, 10), HorseSigns.BAD);
        Check.due("rely(0, -1)", x.rely(0, -1), HorseSigns.BAD);
        Check.due("rely(4, 1)", x.rely(4, 1), HorseSigns.BAD);
        Check.due("rely(-1, 1)", x.rely(-1, 1), HorseSigns.BAD);
        Check.due("cast(99)", x.cast(99), 20);
        Check.due("cast(1)", x.cast(1), 99);
        Check.due("cast(0)", x.cast(0), HorseSigns.BAD);
        Check.due("cast(100)", x.cast(100), HorseSigns.BAD);
        Check.due("rule(4)", x.rule(4), 1);
    }

    private static void sendingAndBurning() {
        HorseSigns x = Check.told("plain 0 1;plain 0 1;");
        int[][] wrong = {{-1, 0, 0, 0}, {100, 0, 0, 0}, {0, -1, 0, 0}, {0, 4, 0, 0},
            {0, 0, -1, 0}, {0, 0, 2, 0}, {0, 0, 0, -1}, {0, 0, 0, 4}};
        for (int i = 1; i <= 8; i++) {
            Check.due("send", x.send(99 - i, 3, 1, 3), i);
            Check.due("report(" + (i - 1) + ", 0)", x.report(i - 1, 0), 99 - i);
        }
        for (int[] w : wrong) {
            Check.due("a wrong send", x.send(w[0], w[1], w[2], w[3]), HorseSigns.BAD);
        }
        Check.due("the 9th", x.send(0, 0, 0, 0), HorseSigns.FULL);
        Check.due("burn(9)", x.burn(9), HorseSigns.BAD);
        Check.due("burn(-1)", x.burn(-1), HorseSigns.BAD);
        Check.due("burn(8)", x.burn(8), 8);
        Check.due("burn(2)", x.burn(2), 8);
        Check.due("report(2, 0)", x.report(2, 0), HorseSigns.BAD);
        Check.due("report(1, 0)", x.report(1, 0), 97);
        for (int[] w : wrong) {
            Check.due("a wrong send", x.send(w[0], w[1], w[2], w[3]), HorseSigns.BAD);
        }
        Check.due("send(0, 0, 0, 0)", x.send(0, 0, 0, 0), 3);
        Check.due("burn(0)", x.burn(0), 3);
        Check.due("rule(1)", x.rule(1), 0);
    }

    private static void counting() {
        HorseSigns x = Check.told(TEXT);
        x.see(0, 0, 0);
        x.keep(1);
        x.feed(32);
        x.feed(32);
        x.sheet(0, 1, 0);
        int[] counts = {1, 1, 2, 0, 60 + 40 + 20 + 90 + 1, 7};
        for (int what = 0; what < counts.length; what++) {
            Check.due("count(" + what + ")", x.count(what), counts[what]);
        }
        Check.tell(x, "");
        Check.due("count(4) of none behind five", x.count(4), 0);
        x = Check.told(TEXT);
        x.keep(1);
        x.keep(0);
        x.keep(0);
        Check.due("count(1)", x.count(1), 2);
        x.sheet(0, 0, 40);
        Check.due("count(3)", x.count(3), 40);
        Check.due("count(-1)", x.count(-1), HorseSigns.BAD);
        Check.due("count(6)", x.count(6), HorseSigns.BAD);
    }

    public static void main(String[] args) {
        aNewObject();
        rules();
        readings();
        riders();
        standingAtTheEdge();
        reports();
        trustAndTold();
        altering();
        relyingAndCasting();
        sendingAndBurning();
        counting();
        Check.finish("StateTest");
    }
}
