import java.math.BigInteger;

/** A DAY and the promises: a test for each sentence that names an edge, with the sentence above it. */
public final class EdgesTest {
    private static final int NONE = HorseSigns.NONE, BAD = HorseSigns.BAD, STATE = HorseSigns.STATE, FULL = HorseSigns.FULL;
    private static final int LEAST = Integer.MIN_VALUE, GREATEST = Integer.MAX_VALUE;

    private static HorseSigns of(String text) {
        return Check.told(text);
    }

    /** A day of one rider: its legs behind it, and a clang if they are other ones. */
    private static void day(String rider, int believed, int due) {
        HorseSigns x = of(rider + "on 0 0 0 " + believed + ";");
        int was = x.rider(0, 1);
        String call = "a day of " + rider + " believed " + believed;
        Check.due("which legs behind " + call, x.ahead(0, 1, 0), due);
        Check.due("CLANGS in " + call, x.days(1), due == was ? 0 : 1);
        Check.due("UP behind " + call, x.rider(0, 1), due);
        Check.due("CLANGS behind " + call, x.rule(3), due == was ? 0 : 1);
        Check.due("DAY behind " + call, x.rule(2), 1);
    }

    // ---- a day

    /** "the first leg (0 to 3) which, were it changed (UP, or no longer UP)". */
    private static void firstLeg() {
        int[] raised = {1, 3, 3, 7, 5, 7, 7};
        for (int up = 0; up < 7; up++) {
            day("plain " + up + " 1;", 3, raised[up]);
        }
        day("plain 8 1;", 3, 9);
        day("plain 9 1;", 3, 11);
        day("plain 12 1;", 3, 13);
        int[] lowered = {0, 0, 0, 2, 0, 4, 4, 6, 0, 8, 8, 10, 8, 12, 12};
        for (int up = 0; up < 15; up++) {
            day("plain " + up + " 1;", 0, lowered[up]);
        }
    }

    /** "would bring what it READS nearer to BELIEVED": as far is not nearer. */
    private static void nearer() {
        day("plain 15 1;", 0, 15);
        day("plain 15 1;", 2, 15);
        day("usurper 15 1;", 3, 15);
        day("usurper 15 1;", 1, 15);
        day("marshal 0 1;", 2, 0);
        day("marshal 15 1;", 0, 15);
        day("quiet 0 1;", 3, 0);
        day("quiet 15 1;", 3, 15);
        day("quiet 1 1;", 1, 1);
        day("quiet 1 1;", 0, 1);
        day("usurper 0 1;", 0, 1);
        day("usurper 7 1;", 3, 6);
        day("marshal 1 1;", 2, 3);
        day("marshal 3 1;", 0, 2);
        day("quiet 2 1;", 3, 3);
        day("quiet 7 1;", 3, 6);
        // Of two legs up both ways are nearer to 1: 0 by one more, 2 by one less.
        day("quiet 6 1;", 1, 7);
        day("quiet 3 1;", 1, 2);
    }

    /** "and by which it would STAND": as it would be then, not as it is. */
    private static void standing() {
        day("plain 0 75;", 1, 1);
        day("plain 0 76;", 1, 0);
        day("plain 1 50;", 3, 3);
        day("plain 1 51;", 3, 1);
        day("plain 3 25;", 3, 7);
        day("plain 3 26;", 3, 3);
        day("plain 7 50;", 0, 6);
        day("plain 7 51;", 0, 7);
        day("quiet 6 25;", 1, 7);
        day("quiet 6 26;", 1, 4);
        day("quiet 6 75;", 1, 4);
        day("quiet 6 76;", 1, 6);
    }

    /** "each RIDER that does not AGREE", "if there is none, nothing. DAY is 1 more." */
    private static void allOrNone() {
        HorseSigns x = of("plain 0 1;plain 0 1;plain 0 1;plain 0 1;plain 0 1;on 0 0 0 3;on 0 0 1 3;on 0 0 2 3;"
                + "on 0 0 3 3;on 0 0 4 2;");
        int[] rung = {5, 5, 4, 0, 0};
        int all = 0;
        for (int d = 0; d < rung.length; d++) {
            Check.due("CLANGS of day " + d, x.days(1), rung[d]);
            all += rung[d];
            Check.due("CLANGS behind day " + d, x.rule(3), all);
            Check.due("DAY", x.rule(2), d + 1);
        }
        HorseSigns empty = new HorseSigns();
        Check.due("days(30) of no riders", empty.days(30), 0);
        Check.due("DAY", empty.rule(2), 30);
    }

    /** A change of mind: the riders move anew on the day of a report, neither ahead of it nor later. */
    private static void laterReports() {
        HorseSigns x = of("plain 0 1;trust 1 2;on 3 0 0 1;on 20 1 0 0;");
        int[][] due = {{3, 0, 0}, {4, 1, 1}, {20, 1, 1}, {21, 0, 2}, {60, 0, 2}};
        for (int[] d : due) {
            Check.due("ahead(0, " + d[0] + ", 0)", x.ahead(0, d[0], 0), d[1]);
            Check.due("runs(" + d[0] + ", 0)", x.runs(d[0], 0), d[2]);
        }
        Check.due("days(20)", x.days(20), 1);
        Check.due("days(1)", x.days(1), 1);
        HorseSigns next = of("plain 0 1;trust 1 2;trust 2 4;on 1 0 0 1;on 4 1 0 0;on 5 2 0 1;on 30 3 0 2;");
        Check.due("a report on the day behind a quiet one: ahead(0, 2, 0)", next.ahead(0, 2, 0), 1);
        Check.due("runs(60, 0)", next.runs(60, 0), 3);
        Check.due("days(30)", next.days(30), 3);
    }

    // ---- promises 2 to 5

    /** "FULL: more than 160", "A byte (0 to 127)", "THE TAPE keeps its first n bytes: how many it had". */
    private static void feedAndEnd() {
        HorseSigns x = new HorseSigns();
        Check.due("end(0) of nothing", x.end(0), 0);
        Check.due("end(1) of nothing", x.end(1), BAD);
        for (int i = 1; i <= 160; i++) {
            Check.due("feed", x.feed(i % 128), i);
        }
        Check.due("the 161st", x.feed(0), FULL);
        Check.due("end(160)", x.end(160), 160);
        Check.due("the 161st still", x.feed(0), FULL);
        Check.due("end(159)", x.end(159), 160);
        Check.due("the 160th", x.feed(32), 160);
        Check.due("the 161st", x.feed(32), FULL);
        Check.due("end(0)", x.end(0), 160);
        Check.due("count(2)", x.count(2), 0);
        HorseSigns cut = new HorseSigns();
        for (char c : "plain 1 23;$".toCharArray()) {
            cut.feed(c);
        }
        Check.due("end(9)", cut.end(9), 12);
        Check.due("feed of a ;", cut.feed(';'), 10);
        Check.due("text()", cut.text(), 1);
        Check.due("WEIGHT of what was kept", cut.rider(0, 2), 2);
    }

    /** "THE TAPE (empty then)", "The FAULT of the latest text(); 0". */
    private static void textAndFault() {
        HorseSigns x = new HorseSigns();
        Check.due("fault() ahead of any", x.fault(), 0);
        Check.due("text() of nothing", x.text(), 0);
        Check.due("a faulty one", Check.tell(x, "plain 0 0;"), -18);
        Check.due("the tape is empty then", x.count(2), 0);
        Check.due("fault()", x.fault(), 3);
        x.feed('x');
        x.end(0);
        x.feed(200);
        x.keep(0);
        x.back(0);
        Check.due("fault() is that of the latest text still", x.fault(), 3);
        Check.due("a good one", Check.tell(x, "bears 7;"), 1);
        Check.due("the tape is empty then", x.count(2), 0);
        Check.due("fault()", x.fault(), 0);
        Check.tell(x, "bears 7;bears 8;");
        Check.due("fault()", x.fault(), 4);
        Check.due("that which was told stays", x.rule(4), 7);
        Check.due("text() of nothing", x.text(), 0);
        Check.due("fault()", x.fault(), 0);
        Check.due("BEARS at first", x.rule(4), 25);
    }

    // ---- promises 6 to 15

    /** "there is no such RIDER", for a new object and for each number of riders. */
    private static void noSuchRider() {
        for (int riders = 0; riders <= 5; riders++) {
            HorseSigns x = of("plain 0 1;".repeat(riders));
            for (int h : new int[] {LEAST, -1, riders, 5, GREATEST}) {
                long[] answers = {x.rider(h, 0), x.told(h, 0, 0), x.alter(h, 1, 1), x.send(0, 0, h, 0),
                    x.ahead(h, 0, 0), x.believed(h, 0), x.agrees(h), x.pose(h, 0), x.heavy(h, 0), x.gain(0, h, 0, 0),
                    x.kind(h, 0, 0), x.luck(0, h, 0, 0, 0), x.see(0, h, 0), x.kinds(h), x.ups(h), x.ask(h, 0)};
                for (long answer : answers) {
                    Check.due("of rider " + h + " of " + riders, answer, BAD);
                }
            }
            int last = riders - 1;
            if (last >= 0) {
                long[] answers = {x.rider(last, 0), x.told(last, 0, 0), x.alter(last, 1, 0), x.send(0, 0, last, 0),
                    x.ahead(last, 0, 0), x.believed(last, 0), x.agrees(last), x.pose(last, 0), x.heavy(last, 0),
                    x.gain(0, last, 0, 0), x.kind(last, 0, 0), x.luck(0, last, 0, 0, 0), x.see(0, last, 0),
                    x.kinds(last), x.ups(last), x.ask(last, 0)};
                long[] due = {0, 0, 0, 1, 0, 0, 0, 0, 99, 1, 0, 1, 1, 15, 1, NONE};
                for (int i = 0; i < due.length; i++) {
                    Check.due("question " + i + " of the last rider of " + riders, answers[i], due[i]);
                }
            }
        }
    }

    /** "5 which AGREE on this DAY (bits), 6 which STAND (bits)". */
    private static void bits() {
        HorseSigns x = of("plain 0 1;plain 0 1;plain 0 1;plain 0 1;plain 0 1;");
        Check.due("all AGREE", x.rule(5), 31);
        Check.due("all STAND", x.rule(6), 31);
        for (int h = 0; h < 5; h++) {
            x.alter(h, 1, 15);
            Check.due("all but " + h + " STAND", x.rule(6), 31 - (1 << h));
            x.alter(h, 1, 0);
            x.send(0, 0, h, 1);
            Check.due("all but " + h + " AGREE", x.rule(5), 31 - (1 << h));
            Check.due("all but " + h + " AGREE, by runs(0, 1)", x.runs(0, 1), 31 - (1 << h));
            x.burn(0);
        }
    }

    /** "up to a DAY (0 to 99), summed". */
    private static void toldUpTo() {
        HorseSigns x = of("plain 0 1;plain 0 1;trust 0 9;trust 1 0;");
        for (int i = 0; i < 8; i++) {
            x.send(i == 7 ? 99 : i, i == 3 ? 1 : 0, i == 4 ? 1 : 0, i == 5 ? 2 : 3);
        }
        int[][] due = {{0, 9}, {1, 18}, {2, 27}, {3, 27}, {4, 27}, {5, 27}, {6, 36}, {7, 36}, {98, 36}, {99, 45}};
        for (int[] d : due) {
            Check.due("told(0, 3, " + d[0] + ")", x.told(0, 3, d[0]), d[1]);
        }
        Check.due("told(0, 2, 4)", x.told(0, 2, 4), 0);
        Check.due("told(0, 2, 5)", x.told(0, 2, 5), 9);
        Check.due("told(1, 3, 99)", x.told(1, 3, 99), 9);
        Check.due("told(1, 0, 99)", x.told(1, 0, 99), 0);
    }

    /** "becomes v (whether it STANDS then or not): what it was". */
    private static void alterTo() {
        HorseSigns x = of("plain 0 1;plain 0 1;bears 1;");
        Check.due("alter(0, 2, 99)", x.alter(0, 2, 99), 1);
        Check.due("it stands no longer", x.rider(0, 5), 0);
        Check.due("alter(0, 1, 15)", x.alter(0, 1, 15), 0);
        Check.due("alter(0, 1, 15) again", x.alter(0, 1, 15), 15);
        Check.due("alter(0, 0, 3)", x.alter(0, 0, 3), 0);
        Check.due("alter(0, 0, 0)", x.alter(0, 0, 0), 3);
        Check.due("alter(0, 2, 1)", x.alter(0, 2, 1), 99);
        Check.due("rider(1, 1)", x.rider(1, 1), 0);
        Check.due("rider(1, 2)", x.rider(1, 2), 1);
        Check.due("no hoof moved: CLANGS", x.rule(3), 0);
    }

    /** "A REPORT more: how many there are. FULL", "REPORTS are the first n alone: how many there were". */
    private static void sendAndBurn() {
        HorseSigns x = of("plain 0 1;");
        Check.due("burn(0) of none", x.burn(0), 0);
        Check.due("burn(1) of none", x.burn(1), BAD);
        for (int i = 1; i <= 8; i++) {
            Check.due("send", x.send(i, i % 4, 0, i % 4), i);
        }
        Check.due("the 9th", x.send(0, 0, 0, 0), FULL);
        Check.due("burn(8)", x.burn(8), 8);
        Check.due("burn(7)", x.burn(7), 8);
        Check.due("the 8th again", x.send(99, 3, 0, 3), 8);
        for (int i = 0; i < 8; i++) {
            Check.due("report(" + i + ", 0)", x.report(i, 0), i == 7 ? 99 : i + 1);
        }
        Check.due("burn(0)", x.burn(0), 8);
        Check.due("nothing is believed then", x.believed(0, 99), NONE);
    }

    // ---- promises 16 to 20

    /** "n DAYS (0 to 30)", "FULL: DAY would be 1000 or more". */
    private static void daysAtMost() {
        HorseSigns x = of("plain 0 1;");
        Check.due("days(0)", x.days(0), 0);
        Check.due("DAY", x.rule(2), 0);
        for (int i = 0; i < 33; i++) {
            Check.due("days(30)", x.days(30), 0);
        }
        Check.due("days(10) would be 1000", x.days(10), FULL);
        Check.due("days(9) is 999", x.days(9), 0);
        Check.due("DAY", x.rule(2), 999);
        Check.due("days(0)", x.days(0), 0);
        Check.due("days(1) would be 1000", x.days(1), FULL);
        Check.due("days(30) would be more", x.days(30), FULL);
        Check.due("days(31)", x.days(31), BAD);
        x.send(99, 0, 0, 2);
        Check.due("BY DAYS there are more: runs(60, 0)", x.runs(60, 0), 2);
        Check.due("ahead(0, 60, 0)", x.ahead(0, 60, 0), 3);
        Check.due("agrees(0)", x.agrees(0), 2);
        Check.due("mean(0, 20, 0)", x.mean(0, 20, 0), 2);
        Check.due("kind(0, 60, 0)", x.kind(0, 60, 0), 1);
        Check.due("liar(60, 1)", x.liar(60, 1), 0);
        Check.due("keep(0)", x.keep(0), 0);
        Check.due("back(0) is DAY", x.back(0), 999);
    }

    /** "in how many there is any CLANG (2), behind how many first there was one (3; NONE)". */
    private static void clangsIn() {
        HorseSigns x = of("plain 0 1;plain 0 1;trust 1 2;on 2 0 0 1;on 2 0 1 2;on 59 1 0 0;");
        int[][] due = {{0, 0, 3, 0, NONE}, {1, 0, 3, 0, NONE}, {2, 0, 0, 0, NONE}, {3, 2, 1, 1, 3}, {4, 3, 3, 2, 3},
            {59, 3, 2, 2, 3}, {60, 4, 3, 3, 3}};
        for (int[] d : due) {
            for (int what = 0; what < 4; what++) {
                Check.due("runs(" + d[0] + ", " + what + ")", x.runs(d[0], what), d[what + 1]);
            }
        }
        HorseSigns last = of("plain 0 1;on 59 0 0 1;");
        Check.due("runs(59, 3)", last.runs(59, 3), NONE);
        Check.due("runs(60, 3)", last.runs(60, 3), 60);
        HorseSigns first = of("plain 0 1;on 0 0 0 1;");
        Check.due("runs(1, 3)", first.runs(1, 3), 1);
        HorseSigns none = new HorseSigns();
        int[] of = {0, 0, 0, NONE};
        for (int what = 0; what < 4; what++) {
            Check.due("runs(60, " + what + ") of no riders", none.runs(60, what), of[what]);
        }
    }

    /** "BY DAYS, n of them (0 to 60): UP of a RIDER then (what 0), what it READS (1)". */
    private static void upAhead() {
        HorseSigns x = of("usurper 4 1;plain 2 1;on 59 0 0 3;on 60 0 1 3;");
        int[][] due = {{0, 0, 4, 2}, {0, 59, 4, 2}, {0, 60, 0, 3}, {1, 0, 2, 1}, {1, 60, 2, 1}};
        for (int[] d : due) {
            Check.due("ahead(" + d[0] + ", " + d[1] + ", 0)", x.ahead(d[0], d[1], 0), d[2]);
            Check.due("ahead(" + d[0] + ", " + d[1] + ", 1)", x.ahead(d[0], d[1], 1), d[3]);
        }
    }

    /** "behind how many (0 to 60) a RIDER AGREES first on the DAY that is next. NONE: behind none". */
    private static void agreesFirst() {
        Check.due("at once", of("plain 0 1;").agrees(0), 0);
        Check.due("at once, as believed", of("plain 3 1;on 0 0 0 2;").agrees(0), 0);
        Check.due("behind 3", of("plain 0 1;on 0 0 0 3;").agrees(0), 3);
        Check.due("at once, though not later", of("plain 0 99;on 1 0 0 3;").agrees(0), 0);
        for (int day = 58; day <= 62; day++) {
            HorseSigns x = of("plain 0 99;trust 1 2;on 0 0 0 3;on " + day + " 1 0 0;");
            Check.due("behind " + day, x.agrees(0), day <= 60 ? day : NONE);
        }
        Check.due("never", of("plain 15 1;on 0 0 0 0;").agrees(0), NONE);
    }

    // ---- promises 21 to 28

    /** "The least UP (as a number) by which a RIDER READS an END, and STANDS. NONE: none". */
    private static void leastPose() {
        HorseSigns x = of("plain 15 25;plain 0 26;plain 0 51;plain 0 76;plain 0 99;bears 25;");
        int[][] due = {{0, 1, 3, 7}, {0, 1, 3, NONE}, {0, 1, NONE, NONE}, {0, NONE, NONE, NONE}, {0, NONE, NONE, NONE}};
        poses(x, due);
        x.cast(24);
        Check.due("99 on four of 24", x.pose(4, 0), NONE);
        Check.due("25 on one of 24", x.pose(0, 3), NONE);
        x.cast(99);
        Check.due("99 on one of 99", x.pose(4, 3), 7);
        HorseSigns kinds = of("marshal 9 1;usurper 9 1;quiet 9 1;");
        poses(kinds, new int[][] {{0, 3, 7, NONE}, {7, 3, 1, 0}, {7, NONE, 0, 3}});
    }

    private static void poses(HorseSigns x, int[][] due) {
        for (int h = 0; h < due.length; h++) {
            for (int e = 0; e < 4; e++) {
                Check.due("pose(" + h + ", " + e + ")", x.pose(h, e), due[h][e]);
            }
        }
    }

    /** "The greatest WEIGHT by which a RIDER READS an END in any way and STANDS. NONE: none". */
    private static void greatestWeight() {
        HorseSigns x = of("plain 15 1;marshal 15 1;usurper 15 1;quiet 15 1;");
        int[] bears = {1, 24, 25, 33, 49, 50, 99};
        for (int b : bears) {
            x.cast(b);
            int[][] legs = {{4, 3, 2, 1}, {4, 2, 1, 0}, {1, 2, 3, 4}, {1, 0, 4, 2}};
            for (int h = 0; h < 4; h++) {
                for (int e = 0; e < 4; e++) {
                    int due = legs[h][e] == 0 ? NONE : Math.min(99, legs[h][e] * b);
                    Check.due("heavy(" + h + ", " + e + ") of " + b, x.heavy(h, e), due);
                }
            }
        }
    }

    /** "The least that a leg must BEAR so that all RIDERS STAND as they are. NONE: by none". */
    private static void leastBearing() {
        int[][] due = {{0, 1, 1}, {0, 4, 1}, {0, 5, 2}, {0, 99, 25}, {1, 3, 1}, {1, 4, 2}, {1, 99, 33}, {3, 99, 50},
            {3, 2, 1}, {3, 3, 2}, {7, 1, 1}, {7, 99, 99}, {15, 1, NONE}, {15, 99, NONE}};
        for (int[] d : due) {
            Check.due("need() of " + d[1] + " by " + d[0], of("quiet " + d[0] + " " + d[1] + ";").need(), d[2]);
        }
        Check.due("need() of no riders", new HorseSigns().need(), 1);
        Check.due("need() of five", of("plain 0 9;plain 0 99;plain 0 1;plain 1 9;plain 7 30;").need(), 30);
        Check.due("need() of five, one of which never stands",
                of("plain 0 9;plain 0 9;plain 15 1;plain 1 9;plain 7 30;").need(), NONE);
    }

    /** "fewer than as it is, of several the first", "NONE: none". */
    private static void worstReporter() {
        Check.due("liar of nothing", new HorseSigns().liar(60, 0), NONE);
        HorseSigns x = of("plain 0 1;on 0 3 0 1;");
        Check.due("liar(0, 0)", x.liar(0, 0), NONE);
        Check.due("liar(1, 0)", x.liar(1, 0), 3);
        Check.due("liar(1, 1)", x.liar(1, 1), 0);
        x.send(0, 2, 0, 1);
        Check.due("as many as it is: liar(1, 0)", x.liar(1, 0), NONE);
        Check.due("as many as it is: liar(1, 1)", x.liar(1, 1), NONE);
        HorseSigns more = of("plain 0 1;trust 1 2;on 0 0 0 3;on 0 1 0 0;");
        Check.due("more than as it is: liar(9, 0)", more.liar(9, 0), NONE);
        HorseSigns equal = of("plain 0 1;plain 0 1;plain 0 1;on 0 1 0 1;on 0 2 1 1;on 0 3 2 1;");
        Check.due("of several the first: liar(1, 0)", equal.liar(1, 0), 1);
        Check.due("of several the first: liar(1, 1)", equal.liar(1, 1), 2);
        HorseSigns late = of("plain 0 1;on 59 0 0 1;");
        Check.due("liar(59, 0)", late.liar(59, 0), NONE);
        Check.due("liar(60, 0)", late.liar(60, 0), 0);
    }

    /** "more than as it is, of several the first", "on the DAY behind n DAYS", "NONE: none". */
    private static void worstReport() {
        Check.due("lose of nothing", new HorseSigns().lose(60, 0), NONE);
        HorseSigns x = of("plain 0 99;on 0 0 0 1;");
        Check.due("lose(0, 0)", x.lose(0, 0), 0);
        Check.due("lose(0, 1)", x.lose(0, 1), 1);
        x.send(0, 0, 0, 1);
        Check.due("as many as it is: lose(0, 0)", x.lose(0, 0), NONE);
        Check.due("as many as it is: lose(0, 1)", x.lose(0, 1), NONE);
        HorseSigns last = of("plain 0 99;plain 0 9;on 0 0 1 0;on 0 0 1 0;on 0 0 1 0;on 0 0 1 0;on 0 0 1 0;on 0 0 1 0;"
                + "on 0 0 1 0;on 60 0 0 1;");
        Check.due("lose(59, 0)", last.lose(59, 0), NONE);
        Check.due("lose(60, 0): the 8th", last.lose(60, 0), 7);
        Check.due("lose(60, 1): the 8th", last.lose(60, 1), 2);
        HorseSigns equal = of("plain 0 99;plain 0 99;plain 0 1;on 9 0 2 1;on 0 0 1 1;on 0 0 0 1;");
        Check.due("of several the first: lose(0, 0)", equal.lose(0, 0), 1);
        Check.due("of several the first: lose(0, 1)", equal.lose(0, 1), 2);
        HorseSigns moving = of("plain 0 1;plain 0 1;on 0 0 1 0;on 0 0 0 3;");
        Check.due("each is left out from now on: lose(2, 0)", moving.lose(2, 0), 1);
        Check.due("each is left out from now on: lose(2, 1)", moving.lose(2, 1), 2);
    }

    /** "10 times the lesser and the greater, of several the least", "NONE: by none". */
    private static void bestExchange() {
        Check.due("swap of nothing", new HorseSigns().swap(60, 0), NONE);
        HorseSigns x = of("plain 0 99;plain 1 1;on 0 0 0 1;");
        Check.due("swap of one", x.swap(0, 0), NONE);
        x.send(0, 0, 1, 0);
        Check.due("swap(0, 0)", x.swap(0, 0), 1);
        Check.due("swap(0, 1)", x.swap(0, 1), 2);
        x.alter(0, 1, 1);
        x.alter(1, 1, 0);
        Check.due("as many as it is: swap(0, 0)", x.swap(0, 0), NONE);
        Check.due("as many as it is: swap(0, 1)", x.swap(0, 1), NONE);
        HorseSigns last = of("plain 0 99;plain 1 1;plain 0 1;on 0 1 2 0;on 0 1 2 0;on 0 1 2 0;on 0 1 2 0;on 0 1 2 0;"
                + "on 0 1 2 0;on 0 0 0 1;on 0 0 1 0;");
        Check.due("the 7th and the 8th: swap(0, 0)", last.swap(0, 0), 67);
        Check.due("the 7th and the 8th: swap(0, 1)", last.swap(0, 1), 3);
        HorseSigns same = of("plain 0 99;on 0 0 0 1;on 0 0 0 1;");
        Check.due("of one rider: swap(0, 0)", same.swap(0, 0), NONE);
        HorseSigns both = of("plain 0 99;plain 1 1;trust 0 2;on 0 0 0 1;on 0 1 1 0;");
        Check.due("both change their riders: swap(0, 1)", both.swap(0, 1), 2);
        HorseSigns late = of("plain 0 99;plain 1 99;on 60 0 0 1;on 60 0 1 2;");
        Check.due("swap(59, 0)", late.swap(59, 0), NONE);
        Check.due("swap(60, 0)", late.swap(60, 0), 1);
        late.burn(1);
        late.send(0, 0, 1, 1);
        Check.due("swap(60, 0) of a report that is right", late.swap(60, 0), NONE);
    }

    /** "The least TRUST of a REPORTER by which an END is BELIEVED of a RIDER on a DAY. NONE: by none". */
    private static void leastTrust() {
        HorseSigns x = of("plain 0 1;trust 0 8;on 9 0 0 1;on 9 1 0 2;");
        Check.due("more is due of the greater: 9", x.gain(1, 0, 2, 9), 9);
        Check.due("0 is enough", x.gain(1, 0, 1, 9), 0);
        Check.due("as much is enough of the lesser", x.gain(0, 0, 1, 9), 1);
        Check.due("the other one by 0", x.gain(0, 0, 2, 9), 0);
        Check.due("on the day ahead", x.gain(1, 0, 2, 8), NONE);
        Check.due("on day 99", x.gain(1, 0, 2, 99), 9);
        Check.due("an end of which nobody tells", x.gain(1, 0, 3, 9), NONE);
        Check.due("a reporter who tells nothing", x.gain(3, 0, 2, 9), NONE);
        Check.due("a reporter who tells nothing, of what is believed", x.gain(3, 0, 1, 9), 0);
        x.rely(0, 9);
        Check.due("9 is not more than 9", x.gain(1, 0, 2, 9), NONE);
        x.rely(0, 0);
        Check.due("one is more than none", x.gain(1, 0, 2, 9), 1);
        Check.due("trust(1) is as it was", x.trust(1), 1);
    }

    /** "The KIND of a RIDER by which fewest CLANGS are in n DAYS, of several the first". */
    private static void bestKind() {
        HorseSigns x = of("quiet 0 1;on 59 0 0 3;");
        Check.due("kind(0, 0, 0)", x.kind(0, 0, 0), 0);
        Check.due("kind(0, 59, 0)", x.kind(0, 59, 0), 0);
        Check.due("kind(0, 60, 0)", x.kind(0, 60, 0), 1);
        Check.due("kind(0, 60, 1)", x.kind(0, 60, 1), 0);
        String[] texts = {"plain 3 1;on 0 0 0 3;", "plain 15 1;on 0 0 0 2;", "plain 7 1;on 0 0 0 1;",
            "plain 2 1;on 0 0 0 3;"};
        int[][] due = {{3, 0}, {0, 0}, {3, 0}, {2, 1}};
        for (int i = 0; i < texts.length; i++) {
            Check.due("kind of " + texts[i], of(texts[i]).kind(0, 9, 0), due[i][0]);
            Check.due("clangs of " + texts[i], of(texts[i]).kind(0, 9, 1), due[i][1]);
        }
        HorseSigns two = of("plain 0 1;plain 0 1;on 0 0 1 3;");
        Check.due("the clangs of the others count", two.kind(0, 9, 1), 3);
    }

    // ---- promises 29 and 30

    /** "Each REPORT is false by v out of ten (0 to 10), by itself (it is as if it were not)". */
    private static void falseOnes() {
        HorseSigns x = of("plain 0 1;plain 0 1;trust 1 0;on 0 0 0 1;on 99 0 0 2;on 99 0 0 2;on 0 1 0 3;on 0 2 1 3;");
        long[][] due = {{0, 1, 0, 1, 1}, {10, 1, 0, 0, 1}, {1, 1, 98, 9, 10}, {1, 1, 99, 171, 1000},
            {1, 2, 98, 0, 1}, {0, 2, 99, 1, 1}, {5, 3, 99, 0, 1}};
        for (long[] d : due) {
            int v = (int) d[0];
            int e = (int) d[1];
            int day = (int) d[2];
            Check.due("luck(" + v + ", 0, " + e + ", " + day + ", 0)", x.luck(v, 0, e, day, 0), d[3]);
            Check.due("luck(" + v + ", 0, " + e + ", " + day + ", 1)", x.luck(v, 0, e, day, 1), d[4]);
        }
        x.rely(0, 0);
        Check.due("of trust that is 0 now", x.luck(1, 0, 1, 0, 0), 0);
        x.rely(1, 1);
        Check.due("of trust that is 1 now", x.luck(1, 0, 3, 0, 0), 9);
        x.burn(0);
        Check.due("of a report that is gone now", x.luck(1, 0, 3, 0, 0), 0);
        Check.due("of nobody's report", of("plain 0 1;").luck(5, 0, 0, 0, 0), 0);
        Check.due("of nobody's report, below", of("plain 0 1;").luck(5, 0, 0, 0, 1), 1);
    }

    /** "the mean of CLANGS in n DAYS (0 to 20)". */
    private static void meanOfClangs() {
        HorseSigns x = of("plain 0 1;on 19 0 0 1;");
        Check.due("mean(1, 19, 0)", x.mean(1, 19, 0), 0);
        Check.due("mean(1, 20, 0)", x.mean(1, 20, 0), 9);
        Check.due("mean(1, 20, 1)", x.mean(1, 20, 1), 10);
        HorseSigns most = of("plain 0 1;plain 0 1;plain 0 1;plain 0 1;plain 0 1;on 0 0 0 3;on 0 0 1 3;on 0 0 2 3;"
                + "on 0 0 3 3;on 0 0 4 3;");
        Check.due("mean(0, 20, 0) of five", most.mean(0, 20, 0), 15);
        Check.due("mean(0, 20, 1) of five", most.mean(0, 20, 1), 1);
        Check.due("mean(1, 1, 0) of five", most.mean(1, 1, 0), 9);
        Check.due("mean(1, 1, 1) of five", most.mean(1, 1, 1), 2);
        HorseSigns against = of("plain 0 1;trust 1 2;on 0 0 0 3;on 0 1 0 0;");
        Check.due("a false report may make more: above", against.mean(1, 3, 0), 27);
        Check.due("a false report may make more: below", against.mean(1, 3, 1), 100);
    }

    /** All of the eight reports, on one rider and on each of five. */
    private static void oddsOfEight() {
        HorseSigns one = of("plain 0 1;" + "on 0 0 0 2;".repeat(8));
        Check.due("luck by 9 above", one.luck(9, 0, 2, 0, 0), 56953279);
        Check.due("luck by 9 below", one.luck(9, 0, 2, 0, 1), 100000000);
        Check.due("mean by 9 above", one.mean(9, 2, 0), 56953279);
        Check.due("mean by 9 below", one.mean(9, 2, 1), 50000000);
        HorseSigns five = of("plain 0 1;".repeat(5));
        for (int i = 0; i < 8; i++) {
            five.send(0, i % 4, i % 5, 1);
        }
        for (int h = 0; h < 5; h++) {
            Check.due("luck of " + h + " above", five.luck(9, h, 1, 0, 0), h < 3 ? 19 : 1);
            Check.due("luck of " + h + " below", five.luck(9, h, 1, 0, 1), h < 3 ? 100 : 10);
        }
        Check.due("mean of five above", five.mean(9, 20, 0), 77);
        Check.due("mean of five below", five.mean(9, 20, 1), 100);
    }

    // ---- promises 31 to 36

    /** "SEEN (6): behind n DAYS (0 to 20) from now on UP of a RIDER is u". */
    private static void sightings() {
        HorseSigns x = of("plain 0 1;plain 0 1;on 19 0 0 1;on 20 0 1 1;");
        for (int i = 1; i <= 6; i++) {
            Check.due("see", x.see(i == 6 ? 20 : i, 0, i == 6 ? 1 : 0), i);
        }
        Check.due("the 7th", x.see(0, 0, 0), FULL);
        Check.due("as seen", x.ups(1), 65535);
        Check.due("behind 20 leg 0 was raised on day 19", x.ups(0), 1);
        Check.due("forget(6)", x.forget(6), 6);
        Check.due("forget(5)", x.forget(5), 6);
        Check.due("forget(6) of 5", x.forget(6), BAD);
        Check.due("see(20, 1, 0) of a report of day 20", x.see(20, 1, 0), 6);
        Check.due("as seen", x.ups(0), 1);
        Check.due("as seen", x.ups(1), 1);
        Check.due("forget(0)", x.forget(0), 6);
        Check.due("forget(0) of none", x.forget(0), 0);
        Check.due("forget(1) of none", x.forget(1), BAD);
    }

    /** "KINDS (bits)", "UPS (bits 0 to 15) by which, all else as it is, all is as SEEN". */
    private static void fittingBits() {
        HorseSigns x = of("plain 0 1;plain 0 1;");
        for (int u = 0; u < 16; u++) {
            x.see(0, 0, u);
            Check.due("ups(0) of " + u, x.ups(0), 1 << u);
            Check.due("kinds(0) of " + u, x.kinds(0), u == 0 ? 15 : 0);
            Check.due("ups(1) of " + u, x.ups(1), u == 0 ? 65535 : 0);
            x.forget(0);
        }
        HorseSigns kinds = of("plain 3 1;on 0 0 0 2;");
        kinds.see(1, 0, 3);
        Check.due("only the plain one stays", kinds.kinds(0), 1);
        kinds.forget(0);
        kinds.see(1, 0, 2);
        Check.due("usurper and quiet let one down", kinds.kinds(0), 12);
        kinds.forget(0);
        kinds.see(1, 0, 7);
        Check.due("the marshal raises one", kinds.kinds(0), 2);
        kinds.see(0, 0, 3);
        Check.due("all that is seen counts", kinds.kinds(0), 2);
        kinds.see(0, 0, 4);
        Check.due("what can not be", kinds.kinds(0), 0);
        Check.due("what can not be", kinds.ups(0), 0);
    }

    /** "fewer than now", "10 times the DAYS and which, of several the least", "NONE: none". */
    private static void whereToLook() {
        HorseSigns x = of("plain 0 1;plain 0 1;plain 0 1;plain 0 1;plain 0 1;on 0 0 4 0;");
        for (int h = 0; h < 5; h++) {
            Check.due("ask(" + h + ", 0)", x.ask(h, 0), h);
            Check.due("ask(" + h + ", 1)", x.ask(h, 1), 1);
        }
        x.see(20, 4, 0);
        Check.due("ups(4)", x.ups(4), 65535 - 32768);
        Check.due("ask(4, 0)", x.ask(4, 0), 4);
        x.see(1, 4, 4);
        Check.due("ups(4): of 5 and of 6 up the first comes down", x.ups(4), 32 + 64);
        Check.due("two are left: ask(4, 0)", x.ask(4, 0), 4);
        Check.due("two are left: ask(4, 1)", x.ask(4, 1), 1);
        x.see(0, 4, 6);
        Check.due("one is left: ask(4, 0)", x.ask(4, 0), NONE);
        Check.due("one is left: ask(4, 1)", x.ask(4, 1), NONE);
        x.see(0, 3, 1);
        Check.due("none is left: ask(4, 0)", x.ask(4, 0), NONE);
        Check.due("none is left: ask(0, 1)", x.ask(0, 1), NONE);
    }

    /** "seed times 1103515245 and 12345": it wraps; "got modulo RIDERS", "got by 16 (down) modulo 16". */
    private static void drifting() {
        int[] seeds = {0, 1, -1, LEAST, GREATEST, 12345, -12345, 65536, 1 << 30, 123456789};
        for (int riders = 1; riders <= 5; riders++) {
            for (int seed : seeds) {
                for (int n : new int[] {1, 2, 7, 60}) {
                    HorseSigns x = of("plain 1 20;".repeat(riders) + "on 0 0 0 1;on 3 1 " + (riders - 1) + " 3;");
                    HorseSigns y = of("plain 1 20;".repeat(riders) + "on 0 0 0 1;on 3 1 " + (riders - 1) + " 3;");
                    int rung = drift(y, riders, seed, n);
                    Check.due("drift(" + seed + ", " + n + ", 0) of " + riders, x.drift(seed, n, 0), rung);
                    Check.due("drift(" + seed + ", " + n + ", 1) of " + riders, x.drift(seed, n, 1), y.rule(5));
                    Check.due("by itself: DAY", x.rule(2), 0);
                    Check.due("by itself: UP", x.rider(0, 1), 1);
                }
            }
        }
    }

    /** The same by alter() and days(). */
    private static int drift(HorseSigns y, int riders, int seed, int n) {
        BigInteger grown = BigInteger.valueOf(seed);
        int rung = 0;
        for (int d = 0; d < n; d++) {
            grown = grown.multiply(BigInteger.valueOf(1103515245)).add(BigInteger.valueOf(12345));
            int got = grown.shiftRight(16).mod(BigInteger.valueOf(32768)).intValue();
            y.alter(got % riders, 1, got / 16 % 16);
            rung += y.days(1);
        }
        return rung;
    }

    /** "BAD; STATE: there are no RIDERS". */
    private static void driftOfNone() {
        HorseSigns x = new HorseSigns();
        int[][] due = {{1, 0, STATE}, {60, 1, STATE}, {0, 0, BAD}, {61, 0, BAD}, {1, -1, BAD}, {1, 2, BAD},
            {LEAST, 0, BAD}, {GREATEST, 0, BAD}};
        for (int[] d : due) {
            Check.due("drift(5, " + d[0] + ", " + d[1] + ") of none", x.drift(5, d[0], d[1]), d[2]);
        }
    }

    // ---- promises 37 to 43

    /** "whether there was one (1, 0)", "All is as IMAGE k: DAY", "STATE: there is none". */
    private static void images() {
        HorseSigns x = of("plain 0 1;on 0 0 0 3;");
        for (int k = 0; k < 2; k++) {
            Check.due("back(" + k + ")", x.back(k), STATE);
            Check.due("keep(" + k + ")", x.keep(k), 0);
            Check.due("keep(" + k + ") again", x.keep(k), 1);
            x.days(1);
        }
        Check.due("back(0)", x.back(0), 0);
        Check.due("UP", x.rider(0, 1), 0);
        x.alter(0, 1, 15);
        x.rely(0, 9);
        x.burn(0);
        Check.due("back(1)", x.back(1), 1);
        Check.due("UP", x.rider(0, 1), 1);
        x.days(2);
        Check.due("back(0) again: what was changed behind it did not change it", x.back(0), 0);
        Check.due("UP", x.rider(0, 1), 0);
        Check.due("TRUST", x.trust(0), 1);
        Check.due("REPORTS", x.rule(1), 1);
        Check.due("CLANGS", x.rule(3), 0);
        Check.due("IMAGES", x.count(1), 2);
    }

    /** An image is no sheet, no tape, nothing seen: these stay as they are. */
    private static void imagesOfTheRest() {
        HorseSigns x = of("plain 0 1;");
        x.keep(0);
        x.sheet(0, 1, 9);
        x.feed('x');
        x.see(3, 0, 1);
        x.read(0, 0, 0, 1);
        Check.due("back(0)", x.back(0), 0);
        int[] due = {1, 1, 1, 9};
        for (int what = 0; what < due.length; what++) {
            Check.due("count(" + what + ")", x.count(what), due[what]);
        }
        Check.due("torn()", x.torn(), 3);
    }

    /** "with 0 to 40 CELLS, or nothing (at first)", "a new row of CELLS 0", "n above 40", "-10 - 4". */
    private static void newSheets() {
        HorseSigns x = of("plain 0 1;");
        for (int k = 0; k < 4; k++) {
            Check.due("nothing at first", x.lay(k, 0, 0), -11);
            for (int lane = 0; lane < 3; lane++) {
                Check.due("sheet of 41", x.sheet(k, lane, 41), BAD);
                Check.due("sheet of -1", x.sheet(k, lane, -1), -14);
                Check.due("sheet of 40", x.sheet(k, lane, 40), 1);
                Check.due("its first cell", x.lay(k, 0, 3), 1);
                Check.due("its last cell", x.lay(k, 39, 3), 1);
                Check.due("behind its last cell", x.lay(k, 40, 3), -12);
                Check.due("the last report", x.read(k, lane, 36, 1), 1);
                Check.due("its END", x.report(0, 3), 3);
                Check.due("anew", x.sheet(k, lane, 40), 1);
                Check.due("the last report", x.read(k, lane, 36, 1), 1);
                Check.due("its END is 0", x.report(1, 3), 0);
                Check.due("the first report", x.read(k, lane, 0, 1), 1);
                Check.due("its DAY is 0", x.report(2, 0), 0);
                Check.due("sheet of 0", x.sheet(k, lane, 0), 1);
                Check.due("no cell of it", x.lay(k, 0, 3), -12);
                x.burn(0);
            }
        }
        Check.due("CELLS of SHEET 0", x.count(3), 0);
    }

    /** "BAD: also n above 40; -10 - 4": BAD comes first, whatever n is. */
    private static void sheetOrder() {
        HorseSigns x = new HorseSigns();
        for (int n : new int[] {LEAST, -1, 0, 41, GREATEST}) {
            Check.due("sheet(4, 0, " + n + ")", x.sheet(4, 0, n), BAD);
            Check.due("sheet(-1, 0, " + n + ")", x.sheet(-1, 0, n), BAD);
            Check.due("sheet(0, 3, " + n + ")", x.sheet(0, 3, n), BAD);
            Check.due("sheet(0, -1, " + n + ")", x.sheet(0, -1, n), BAD);
        }
        Check.due("nothing still", x.count(3), NONE);
    }

    /** "CELL i of a SHEET becomes v (its lowest bits)". */
    private static void lowestBits() {
        int[][] due = {{7, 7, 7, 7}, {256 + 7, 7, -1, -1}, {-256 + 7, 7, -1, -1}, {65536 + 7, 7, 7, -1},
            {-65536 + 7, 7, 7, -1}, {LEAST + 7, 7, 7, -1}, {GREATEST - 248, 7, -1, -1}, {GREATEST, -1, -1, -1},
            {LEAST, 0, 0, -1}, {128, -1, -1, -1}, {127, -1, -1, -1}, {255, -1, -1, -1}, {32768, 0, -1, -1},
            {65535, -1, -1, -1}, {65536, 0, 0, -1}, {1 << 24, 0, 0, -1}, {99, 99, 99, 99}, {100, -1, -1, -1}};
        for (int[] d : due) {
            for (int lane = 0; lane < 3; lane++) {
                HorseSigns x = of("plain 0 1;");
                x.sheet(1, lane, 4);
                Check.due("lay(1, 0, " + d[0] + ")", x.lay(1, 0, d[0]), 1);
                String call = d[0] + " as a DAY, of lane " + lane;
                Check.due(call, x.read(1, lane, 0, 1), d[lane + 1] < 0 ? -20 : 1);
                Check.due(call, x.report(0, 0), d[lane + 1] < 0 ? BAD : d[lane + 1]);
            }
        }
    }

    /** "four CELLS each from CELL f on, one behind another": each number into its own place. */
    private static void fourCells() {
        HorseSigns x = of("plain 0 1;plain 0 1;plain 0 1;");
        x.sheet(0, 1, 13);
        int[] row = {9, 50, 3, 2, 1, 60, 2, 1, 0, 70, 1, 0, 3};
        for (int i = 0; i < row.length; i++) {
            x.lay(0, i, row[i]);
        }
        Check.due("read(0, 1, 1, 3)", x.read(0, 1, 1, 3), 3);
        for (int i = 0; i < 12; i++) {
            Check.due("report(" + i / 4 + ", " + i % 4 + ")", x.report(i / 4, i % 4), row[i + 1]);
        }
    }

    /** "What the machine refuses: those that were whole ahead came (its FAULT is asked by torn())". */
    private static void tornReads() {
        for (int cells = 0; cells <= 12; cells++) {
            HorseSigns x = of("plain 0 1;");
            x.sheet(0, 2, cells);
            for (int f = -5; f <= cells + 1; f++) {
                for (int n : new int[] {0, 1, 3}) {
                    x.burn(0);
                    int came = f < 0 ? 0 : Math.min(n, Math.max(0, cells - f) / 4);
                    String call = "read(0, 2, " + f + ", " + n + ") of " + cells;
                    Check.due(call, x.read(0, 2, f, n), came);
                    Check.due("torn() behind " + call, x.torn(), came < n ? 2 : 0);
                    Check.due("REPORTS behind " + call, x.rule(1), came);
                }
            }
        }
    }

    /** "from CELL f on": a place near the greatest number does not wrap. */
    private static void farPlaces() {
        HorseSigns x = of("plain 0 1;");
        x.sheet(0, 0, 40);
        for (int f : new int[] {LEAST, LEAST + 1, -40, -4, -3, -1, 37, 40, 41, GREATEST - 4, GREATEST - 3, GREATEST}) {
            Check.due("read(0, 0, " + f + ", 10)", x.read(0, 0, f, 10), 0);
            Check.due("torn()", x.torn(), 2);
            Check.due("REPORTS", x.rule(1), 0);
        }
    }

    /** "1 NULL (nothing), 2 INDEX, 3 CAST (another lane)": the first that the machine finds. */
    private static void faultsInOrder() {
        HorseSigns x = of("plain 0 1;");
        for (int lane = 0; lane < 3; lane++) {
            x.sheet(lane, lane, lane == 1 ? 4 : 0);
        }
        for (int k = 0; k < 4; k++) {
            for (int lane = 0; lane < 3; lane++) {
                for (int f : new int[] {-1, 0, 1}) {
                    x.burn(0);
                    int due = k == 3 ? 1 : k != lane ? 3 : k == 1 && f == 0 ? 0 : 2;
                    String call = "read(" + k + ", " + lane + ", " + f + ", 1)";
                    Check.due(call, x.read(k, lane, f, 1), due == 0 ? 1 : 0);
                    Check.due("torn() behind " + call, x.torn(), due);
                }
            }
        }
    }

    /** "-20 less i: the i-th, whole, is refused by send() (in whichever way): then none came; the first met". */
    private static void refusedReads() {
        int[][] wrong = {{0, 100}, {0, -1}, {1, 4}, {1, -1}, {2, 1}, {2, -1}, {3, 4}, {3, -1}};
        for (int[] w : wrong) {
            for (int i = 0; i < 5; i++) {
                HorseSigns x = of("plain 0 1;");
                x.send(7, 0, 0, 0);
                x.sheet(2, 1, 22);
                x.lay(2, 4 * i + w[0], w[1]);
                Check.due("read(2, 1, 0, " + i + "), all ahead of it", x.read(2, 1, 0, i), i);
                x.burn(1);
                Check.due("read(2, 1, 0, 10), a fault comes later", x.read(2, 1, 0, 10), -20 - i);
                Check.due("none came", x.rule(1), 1);
                Check.due("torn() is as it was", x.torn(), 0);
            }
        }
        HorseSigns torn = of("plain 0 1;");
        torn.sheet(2, 1, 6);
        torn.lay(2, 4, 100);
        Check.due("one that is not whole is not refused", torn.read(2, 1, 0, 2), 1);
        Check.due("torn()", torn.torn(), 2);
    }

    /** "(in whichever way)": FULL too. */
    private static void refusedAsFull() {
        for (int had = 0; had <= 8; had++) {
            HorseSigns x = of("plain 0 1;");
            x.sheet(0, 0, 40);
            for (int i = 0; i < had; i++) {
                x.send(1, 1, 0, 1);
            }
            Check.due("read(0, 0, 0, 10) behind " + had, x.read(0, 0, 0, 10), -20 - (8 - had));
            Check.due("none came", x.rule(1), had);
            Check.due("read(0, 0, 0, " + (8 - had) + ")", x.read(0, 0, 0, 8 - had), 8 - had);
            Check.due("all came", x.rule(1), 8);
        }
        HorseSigns none = new HorseSigns();
        none.sheet(0, 0, 4);
        Check.due("of no riders", none.read(0, 0, 0, 1), -20);
    }

    /** "The FAULT of the latest read() that came to an end; 0". */
    private static void tornOfTheLatest() {
        HorseSigns x = of("plain 0 1;");
        Check.due("torn() ahead of any", x.torn(), 0);
        x.sheet(0, 0, 5);
        x.read(1, 0, 0, 1);
        Check.due("torn()", x.torn(), 1);
        Check.due("BAD", x.read(0, 0, 0, 11), BAD);
        Check.due("torn() is as it was", x.torn(), 1);
        x.lay(0, 0, 100);
        Check.due("refused", x.read(0, 0, 0, 1), -20);
        Check.due("torn() is as it was", x.torn(), 1);
        x.lay(1, 0, 0);
        x.lay(0, 99, 0);
        x.sheet(0, 0, -1);
        Check.due("torn() is of read() alone", x.torn(), 1);
        Check.due("came", x.read(0, 0, 1, 1), 1);
        Check.due("torn()", x.torn(), 0);
        x.read(0, 1, 0, 1);
        Check.due("a text", Check.tell(x, "plain 0 1;"), 1);
        Check.due("torn() behind a text", x.torn(), 3);
    }

    /** "3 CELLS of SHEET 0 (NONE: nothing), 4 WEIGHT of all RIDERS, 5 TRUST of all REPORTERS". */
    private static void counts() {
        HorseSigns x = of("plain 0 99;plain 0 99;plain 0 99;plain 0 99;plain 0 99;trust 0 9;trust 1 9;trust 2 9;trust 3 9;");
        Check.due("count(3)", x.count(3), NONE);
        Check.due("count(4)", x.count(4), 495);
        Check.due("count(5)", x.count(5), 36);
        x.sheet(1, 0, 5);
        Check.due("count(3), another sheet", x.count(3), NONE);
        for (int n : new int[] {0, 1, 40}) {
            x.sheet(0, 2, n);
            Check.due("count(3)", x.count(3), n);
        }
        for (int r = 0; r < 4; r++) {
            x.rely(r, 0);
        }
        Check.due("count(5)", x.count(5), 0);
        x.keep(1);
        Check.due("count(1)", x.count(1), 1);
        Check.due("count(0)", x.count(0), 0);
    }

    private static void aDay() {
        firstLeg();
        nearer();
        standing();
        allOrNone();
        laterReports();
    }

    private static void toldAndChanged() {
        feedAndEnd();
        textAndFault();
        noSuchRider();
        bits();
        toldUpTo();
        alterTo();
        sendAndBurn();
    }

    private static void ahead() {
        daysAtMost();
        clangsIn();
        upAhead();
        agreesFirst();
    }

    private static void best() {
        leastPose();
        greatestWeight();
        leastBearing();
        worstReporter();
        worstReport();
        bestExchange();
        leastTrust();
        bestKind();
        falseOnes();
        meanOfClangs();
        oddsOfEight();
    }

    private static void seen() {
        sightings();
        fittingBits();
        whereToLook();
        drifting();
        driftOfNone();
    }

    private static void kept() {
        images();
        imagesOfTheRest();
        newSheets();
        sheetOrder();
        lowestBits();
        fourCells();
        tornReads();
        farPlaces();
        faultsInOrder();
        refusedReads();
        refusedAsFull();
        tornOfTheLatest();
        counts();
    }

    public static void main(String[] args) {
        aDay();
        toldAndChanged();
        ahead();
        best();
        seen();
        kept();
        Check.finish("EdgesTest");
    }
}
