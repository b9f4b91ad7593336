/** Promises 37 to 42: keep, back, sheet, lay, read, torn. */
public final class SheetsTest {
    private static void images() {
        HorseSigns x = Check.told("plain 0 60;quiet 5 9;bears 30;trust 2 7;on 0 2 0 1;on 3 0 1 2;");
        Check.due("keep(2)", x.keep(2), HorseSigns.BAD);
        Check.due("keep(-1)", x.keep(-1), HorseSigns.BAD);
        Check.due("back(2)", x.back(2), HorseSigns.BAD);
        Check.due("back(-1)", x.back(-1), HorseSigns.BAD);
        Check.due("back(1)", x.back(1), HorseSigns.STATE);
        Check.due("keep(1)", x.keep(1), 0);
        Check.due("back(0)", x.back(0), HorseSigns.STATE);
        x.days(7);
        Check.due("keep(0)", x.keep(0), 0);
        x.alter(0, 0, 2);
        x.alter(0, 1, 9);
        x.alter(1, 2, 44);
        x.cast(1);
        x.rely(2, 3);
        x.burn(1);
        x.send(9, 3, 1, 3);
        x.send(9, 3, 1, 3);
        x.see(1, 0, 3);
        x.days(5);
        Check.due("back(1)", x.back(1), 0);
        int[] first = {2, 2, 0, 0, 30, 2, 3};
        asKept(x, first, 0);
        Check.due("back(0)", x.back(0), 7);
        int[] later = {2, 2, 7, 2, 30, 3, 3};
        asKept(x, later, 1);
        Check.due("what is seen stays", x.count(0), 1);
        Check.due("keep(1)", x.keep(1), 1);
        Check.due("back(1)", x.back(1), 7);
    }

    private static void asKept(HorseSigns x, int[] rules, int up) {
        for (int what = 0; what < rules.length; what++) {
            Check.due("rule(" + what + ")", x.rule(what), rules[what]);
        }
        Check.due("rider(0, 0)", x.rider(0, 0), 0);
        Check.due("rider(0, 1)", x.rider(0, 1), up);
        Check.due("rider(1, 2)", x.rider(1, 2), 9);
        Check.due("trust(2)", x.trust(2), 7);
        Check.due("report(1, 0)", x.report(1, 0), 3);
        Check.due("report(1, 3)", x.report(1, 3), 2);
    }

    private static void sheets() {
        HorseSigns x = new HorseSigns();
        Check.due("sheet(-1, 0, 0)", x.sheet(-1, 0, 0), HorseSigns.BAD);
        Check.due("sheet(4, 0, 0)", x.sheet(4, 0, 0), HorseSigns.BAD);
        Check.due("sheet(0, -1, 0)", x.sheet(0, -1, 0), HorseSigns.BAD);
        Check.due("sheet(0, 3, 0)", x.sheet(0, 3, 0), HorseSigns.BAD);
        Check.due("sheet(0, 3, -1)", x.sheet(0, 3, -1), HorseSigns.BAD);
        Check.due("sheet(4, 0, -1)", x.sheet(4, 0, -1), HorseSigns.BAD);
        Check.due("sheet(0, 0, 41)", x.sheet(0, 0, 41), HorseSigns.BAD);
        Check.due("sheet(0, 0, -1)", x.sheet(0, 0, -1), -14);
        Check.due("count(3)", x.count(3), HorseSigns.NONE);
        Check.due("sheet(0, 0, 0)", x.sheet(0, 0, 0), 1);
        Check.due("count(3)", x.count(3), 0);
        Check.due("lay(0, 0, 0)", x.lay(0, 0, 0), -12);
        Check.due("sheet(0, 0, 40)", x.sheet(0, 0, 40), 1);
        Check.due("lay(0, 39, 1)", x.lay(0, 39, 1), 1);
        Check.due("lay(0, 40, 1)", x.lay(0, 40, 1), -12);
        Check.due("lay(0, -1, 1)", x.lay(0, -1, 1), -12);
        Check.due("lay(4, 0, 1)", x.lay(4, 0, 1), HorseSigns.BAD);
        Check.due("lay(-1, 0, 1)", x.lay(-1, 0, 1), HorseSigns.BAD);
        Check.due("lay(3, 99, 1)", x.lay(3, 99, 1), -11);
        Check.due("sheet(0, 0, -1)", x.sheet(0, 0, -1), -14);
        Check.due("count(3)", x.count(3), 40);
    }

    private static void layRow(HorseSigns x, int k, int[] row) {
        for (int i = 0; i < row.length; i++) {
            Check.due("lay(" + k + ", " + i + ", " + row[i] + ")", x.lay(k, i, row[i]), 1);
        }
    }

    /** Cells keep the lowest bits of what is laid: as many as their lane has, with a sign. */
    private static void lanes() {
        int[] much = {0, 256, 65536};
        for (int lane = 0; lane < 3; lane++) {
            for (int m = 0; m < 3; m++) {
                HorseSigns x = Check.told("plain 0 1;");
                x.sheet(2, lane, 8);
                layRow(x, 2, new int[] {4, 3, 0, 2, 5 + much[m], 2, 0, 1});
                int came = lane == 2 && m > 0 || lane == 1 && m == 1 ? -21 : 2;
                Check.due("read of lane " + lane + " with " + much[m] + " more", x.read(2, lane, 0, 2), came);
                Check.due("rule(1)", x.rule(1), Math.max(0, came));
                Check.due("report(1, 0)", x.report(1, 0), came > 0 ? 5 : HorseSigns.BAD);
            }
        }
        HorseSigns x = Check.told("plain 0 1;");
        x.sheet(0, 0, 4);
        x.lay(0, 0, 255);
        Check.due("a byte of 255 is -1", x.read(0, 0, 0, 1), -20);
    }

    private static void reading() {
        HorseSigns x = Check.told("plain 0 1;plain 0 1;");
        x.sheet(1, 2, 11);
        layRow(x, 1, new int[] {0, 1, 0, 2, 99, 3, 1, 3, 5, 0, 1});
        Check.due("read(1, 2, 0, 1)", x.read(1, 2, 0, 1), 1);
        Check.due("torn()", x.torn(), 0);
        Check.due("read(1, 2, 0, 3): two are whole", x.read(1, 2, 0, 3), 2);
        Check.due("torn()", x.torn(), 2);
        Check.due("rule(1)", x.rule(1), 3);
        int[] last = {99, 3, 1, 3};
        for (int what = 0; what < 4; what++) {
            Check.due("report(2, " + what + ")", x.report(2, what), last[what]);
        }
        Check.due("read(1, 2, 0, 0)", x.read(1, 2, 0, 0), 0);
        Check.due("torn() of nothing read", x.torn(), 0);
        Check.due("read(1, 2, 7, 1)", x.read(1, 2, 7, 1), -20);
        Check.due("read(1, 2, 8, 1)", x.read(1, 2, 8, 1), 0);
        Check.due("torn()", x.torn(), 2);
        Check.due("a refused one leaves torn() as it was", x.read(1, 2, 7, 1), -20);
        Check.due("torn()", x.torn(), 2);
        Check.due("read(1, 2, -1, 10)", x.read(1, 2, -1, 10), 0);
        Check.due("read(1, 2, the greatest, 10)", x.read(1, 2, Integer.MAX_VALUE, 10), 0);
        Check.due("read(1, 2, the least, 10)", x.read(1, 2, Integer.MIN_VALUE, 10), 0);
        Check.due("torn()", x.torn(), 2);
        Check.due("read(1, 0, -1, 1): the cast comes first", x.read(1, 0, -1, 1), 0);
        Check.due("torn()", x.torn(), 3);
        Check.due("read(0, 0, -1, 1): nothing at all", x.read(0, 0, -1, 1), 0);
        Check.due("torn()", x.torn(), 1);
        int[][] wrong = {{-1, 0, 0, 0}, {4, 0, 0, 0}, {0, -1, 0, 0}, {0, 3, 0, 0}, {0, 0, 0, -1}, {0, 0, 0, 11}};
        for (int[] w : wrong) {
            Check.due("a wrong read", x.read(w[0], w[1], w[2], w[3]), HorseSigns.BAD);
            Check.due("torn()", x.torn(), 1);
        }
        Check.due("rule(1)", x.rule(1), 3);
    }

    private static void tooMany() {
        HorseSigns x = Check.told("plain 0 1;");
        x.sheet(3, 0, 40);
        Check.due("read(3, 0, 0, 10): the 9th is refused", x.read(3, 0, 0, 10), -28);
        Check.due("rule(1)", x.rule(1), 0);
        Check.due("read(3, 0, 0, 8)", x.read(3, 0, 0, 8), 8);
        Check.due("read(3, 0, 36, 1)", x.read(3, 0, 36, 1), -20);
        Check.due("read(3, 0, 37, 1): the fault is met first", x.read(3, 0, 37, 1), 0);
        Check.due("torn()", x.torn(), 2);
        x.burn(7);
        Check.due("read(3, 0, 36, 2): one, then a fault", x.read(3, 0, 36, 2), 1);
        Check.due("torn()", x.torn(), 2);
        Check.due("rule(1)", x.rule(1), 8);
        x.burn(7);
        Check.due("read(3, 0, 32, 3): the refusal is met first", x.read(3, 0, 32, 3), -21);
        Check.due("rule(1)", x.rule(1), 7);
        Check.due("read(3, 0, 0, 1) of no riders", new HorseSigns().read(3, 0, 0, 1), 0);
    }

    private static void newRow() {
        HorseSigns x = Check.told("plain 0 1;");
        x.sheet(0, 2, 4);
        layRow(x, 0, new int[] {9, 3, 0, 3});
        x.sheet(0, 1, 8);
        Check.due("read(0, 2, 0, 1) of what is shorts now", x.read(0, 2, 0, 1), 0);
        Check.due("torn()", x.torn(), 3);
        Check.due("read(0, 1, 0, 2)", x.read(0, 1, 0, 2), 2);
        Check.due("the cells are new", x.report(0, 0), 0);
        Check.due("the cells are new", x.report(0, 3), 0);
        Check.due("the other sheets are nothing", x.lay(1, 0, 0), -11);
    }

    public static void main(String[] args) {
        images();
        sheets();
        lanes();
        reading();
        tooMany();
        newRow();
        Check.finish("SheetsTest");
    }
}
