/** Promises 21 to 28: pose, heavy, need, liar, lose, swap, gain, kind. */
public final class BestTest {
    private static void poses() {
        HorseSigns x = Check.told("plain 9 50;marshal 0 25;usurper 0 51;quiet 0 1;");
        int none = HorseSigns.NONE;
        int[][] due = {{0, 1, 3, none}, {0, 3, 7, none}, {none, none, 1, 0}, {7, none, 0, 3}};
        for (int h = 0; h < 4; h++) {
            for (int e = 0; e < 4; e++) {
                Check.due("pose(" + h + ", " + e + ")", x.pose(h, e), due[h][e]);
            }
        }
        wrongPairs(x);
        Check.due("rider(0, 1) is as it was", x.rider(0, 1), 9);
    }

    private static void wrongPairs(HorseSigns x) {
        int[][] wrong = {{-1, 0}, {4, 0}, {0, -1}, {0, 4}};
        for (int[] w : wrong) {
            Check.due("a wrong pose", x.pose(w[0], w[1]), HorseSigns.BAD);
            Check.due("a wrong heavy", x.heavy(w[0], w[1]), HorseSigns.BAD);
        }
    }

    private static void weights() {
        HorseSigns x = Check.told("plain 9 50;marshal 15 99;usurper 0 51;quiet 0 1;bears 24;");
        int none = HorseSigns.NONE;
        int[][] due = {{96, 72, 48, 24}, {96, 48, 24, none}, {24, 48, 72, 96}, {24, none, 96, 48}};
        for (int h = 0; h < 4; h++) {
            for (int e = 0; e < 4; e++) {
                Check.due("heavy(" + h + ", " + e + ")", x.heavy(h, e), due[h][e]);
            }
        }
        x.cast(50);
        Check.due("99 at most", x.heavy(0, 0), 99);
        Check.due("50 on one leg", x.heavy(0, 3), 50);
        x.cast(99);
        Check.due("99 on one leg", x.heavy(0, 3), 99);
    }

    private static void needs() {
        Check.due("need() of none", new HorseSigns().need(), 1);
        Check.due("need() of 1 on four", Check.told("plain 0 1;").need(), 1);
        Check.due("need() of 4 on four", Check.told("plain 0 4;").need(), 1);
        Check.due("need() of 5 on four", Check.told("plain 0 5;").need(), 2);
        Check.due("need() of two", Check.told("plain 0 99;plain 3 98;").need(), 49);
        Check.due("need() of 99 on one", Check.told("plain 7 99;").need(), 99);
        HorseSigns x = Check.told("plain 15 1;bears 9;");
        Check.due("need() of none down", x.need(), HorseSigns.NONE);
        Check.due("rule(4) is as it was", x.rule(4), 9);
    }

    private static void liars() {
        HorseSigns x = Check.told("plain 0 1;plain 0 1;trust 1 2;trust 2 2;on 0 1 0 1;on 0 2 1 3;on 0 3 1 1;");
        Check.due("liar(0, 0)", x.liar(0, 0), HorseSigns.NONE);
        Check.due("liar(0, 1)", x.liar(0, 1), HorseSigns.NONE);
        Check.due("as it is", x.runs(1, 0), 2);
        Check.due("liar(1, 0): of several the first", x.liar(1, 0), 1);
        Check.due("liar(1, 1)", x.liar(1, 1), 1);
        Check.due("as it is", x.runs(9, 0), 4);
        Check.due("liar(9, 0)", x.liar(9, 0), 2);
        Check.due("liar(9, 1)", x.liar(9, 1), 2);
        Check.due("liar(60, 0)", x.liar(60, 0), 2);
        Check.due("trust(2) is as it was", x.trust(2), 2);
        HorseSigns first = Check.told("plain 0 1;plain 0 1;on 0 0 0 2;on 0 3 1 1;");
        Check.due("liar(9, 0): the first reporter", first.liar(9, 0), 0);
        Check.due("liar(9, 1): the first reporter", first.liar(9, 1), 1);
        wrongRuns(x);
    }

    private static void wrongRuns(HorseSigns x) {
        int[][] wrong = {{-1, 0}, {61, 0}, {0, -1}, {0, 2}};
        for (int[] w : wrong) {
            Check.due("a wrong liar", x.liar(w[0], w[1]), HorseSigns.BAD);
            Check.due("a wrong lose", x.lose(w[0], w[1]), HorseSigns.BAD);
            Check.due("a wrong swap", x.swap(w[0], w[1]), HorseSigns.BAD);
            Check.due("a wrong kind", x.kind(0, w[0], w[1]), HorseSigns.BAD);
        }
    }

    private static void losses() {
        HorseSigns x = Check.told("plain 0 99;plain 0 99;plain 0 9;trust 1 2;"
                + "on 0 0 0 1;on 0 1 1 3;on 0 0 2 2;on 0 0 1 0;");
        Check.due("as it is", x.runs(0, 1), 0);
        Check.due("lose(0, 0): of several the first", x.lose(0, 0), 0);
        Check.due("lose(0, 1)", x.lose(0, 1), 1);
        Check.due("as it is", x.runs(2, 1), 4);
        Check.due("lose(2, 0)", x.lose(2, 0), 0);
        Check.due("lose(2, 1)", x.lose(2, 1), 2);
        x.burn(0);
        Check.due("lose(2, 0) of none", x.lose(2, 0), HorseSigns.NONE);
        x.send(0, 0, 2, 1);
        Check.due("lose(60, 0): all agree", x.lose(60, 0), HorseSigns.NONE);
        Check.due("lose(60, 1): all agree", x.lose(60, 1), HorseSigns.NONE);
        Check.due("lose(0, 0)", x.lose(0, 0), 0);
        Check.due("lose(0, 1)", x.lose(0, 1), 3);
        Check.due("rule(1) is as it was", x.rule(1), 1);
    }

    private static void swaps() {
        HorseSigns x = Check.told("plain 0 99;plain 1 1;plain 3 1;on 0 0 0 1;on 0 0 1 0;on 0 0 2 2;");
        Check.due("as it is", x.runs(0, 1), 4);
        Check.due("swap(0, 0)", x.swap(0, 0), 1);
        Check.due("swap(0, 1)", x.swap(0, 1), 3);
        x.send(0, 3, 2, 2);
        Check.due("as it is", x.runs(5, 1), 6);
        Check.due("swap(5, 0)", x.swap(5, 0), 1);
        Check.due("swap(5, 1)", x.swap(5, 1), 3);
        x.burn(1);
        Check.due("swap(0, 0) of one", x.swap(0, 0), HorseSigns.NONE);
        Check.due("swap(0, 1) of one", x.swap(0, 1), HorseSigns.NONE);
        HorseSigns many = Check.told("plain 0 99;plain 1 99;plain 0 99;plain 1 99;"
                + "on 0 0 0 1;on 0 0 1 0;on 0 0 2 1;on 0 0 3 0;");
        Check.due("swap(0, 0): of several the least", many.swap(0, 0), 1);
        Check.due("swap(0, 1): of several the least", many.swap(0, 1), 2);
        HorseSigns high = Check.told("plain 0 99;plain 0 99;plain 1 1;on 9 0 0 0;on 9 0 0 0;on 0 0 1 1;on 0 0 2 0;");
        Check.due("swap(0, 0) of the 3rd and 4th", high.swap(0, 0), 23);
        Check.due("report(2, 2) is as it was", high.report(2, 2), 1);
    }

    private static void gains() {
        HorseSigns x = Check.told("plain 0 1;plain 0 1;trust 0 4;on 1 0 0 1;on 3 1 0 2;on 5 2 0 0;on 7 2 0 0;");
        int none = HorseSigns.NONE;
        Check.due("gain(1, 0, 2, 2)", x.gain(1, 0, 2, 2), none);
        Check.due("gain(1, 0, 2, 3)", x.gain(1, 0, 2, 3), 5);
        Check.due("gain(1, 0, 1, 3)", x.gain(1, 0, 1, 3), 0);
        Check.due("gain(2, 0, 0, 5)", x.gain(2, 0, 0, 5), 4);
        Check.due("gain(2, 0, 0, 7)", x.gain(2, 0, 0, 7), 2);
        Check.due("gain(3, 0, 0, 7)", x.gain(3, 0, 0, 7), none);
        Check.due("gain(0, 1, 0, 99)", x.gain(0, 1, 0, 99), none);
        x.rely(0, 9);
        Check.due("gain(1, 0, 2, 3) against 9", x.gain(1, 0, 2, 3), none);
        Check.due("gain(2, 0, 0, 5) against 9", x.gain(2, 0, 0, 5), 9);
        Check.due("trust(2) is as it was", x.trust(2), 1);
        int[][] wrong = {{-1, 0, 0, 0}, {4, 0, 0, 0}, {0, -1, 0, 0}, {0, 2, 0, 0}, {0, 0, -1, 0}, {0, 0, 4, 0},
            {0, 0, 0, -1}, {0, 0, 0, 100}};
        for (int[] w : wrong) {
            Check.due("a wrong gain", x.gain(w[0], w[1], w[2], w[3]), HorseSigns.BAD);
        }
    }

    private static void kinds() {
        HorseSigns x = Check.told("plain 0 1;plain 0 1;on 0 0 0 2;on 0 0 1 1;");
        Check.due("kind(0, 0, 0)", x.kind(0, 0, 0), 0);
        Check.due("kind(0, 0, 1)", x.kind(0, 0, 1), 0);
        Check.due("as it is", x.runs(9, 0), 3);
        Check.due("kind(0, 9, 0): of several the first", x.kind(0, 9, 0), 1);
        Check.due("kind(0, 9, 1)", x.kind(0, 9, 1), 1);
        x.alter(0, 1, 3);
        Check.due("kind(0, 60, 0)", x.kind(0, 60, 0), 0);
        Check.due("kind(0, 60, 1)", x.kind(0, 60, 1), 1);
        Check.due("kind(2, 0, 0)", x.kind(2, 0, 0), HorseSigns.BAD);
        Check.due("kind(-1, 0, 0)", x.kind(-1, 0, 0), HorseSigns.BAD);
        Check.due("rider(0, 0) is as it was", x.rider(0, 0), 0);
    }

    public static void main(String[] args) {
        poses();
        weights();
        needs();
        liars();
        losses();
        swaps();
        gains();
        kinds();
        Check.finish("BestTest");
    }
}
