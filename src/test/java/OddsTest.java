/** Promises 29 and 30: luck, mean. */
public final class OddsTest {
    private static void odds(HorseSigns x, int v, int e, int day, long above, long below) {
        Check.due("luck(" + v + ", 0, " + e + ", " + day + ", 0)", x.luck(v, 0, e, day, 0), above);
        Check.due("luck(" + v + ", 0, " + e + ", " + day + ", 1)", x.luck(v, 0, e, day, 1), below);
    }

    private static void means(HorseSigns x, int v, int n, long above, long below) {
        Check.due("mean(" + v + ", " + n + ", 0)", x.mean(v, n, 0), above);
        Check.due("mean(" + v + ", " + n + ", 1)", x.mean(v, n, 1), below);
    }

    private static void luck() {
        HorseSigns x = Check.told("plain 0 1;plain 0 1;trust 0 2;on 1 0 0 2;on 3 1 0 1;on 4 3 1 3;on 5 1 0 1;");
        odds(x, 3, 2, 0, 0, 1);
        odds(x, 0, 2, 1, 1, 1);
        odds(x, 3, 2, 1, 7, 10);
        odds(x, 3, 1, 3, 21, 100);
        odds(x, 10, 2, 99, 0, 1);
        odds(x, 5, 1, 99, 1, 2);
        odds(x, 0, 1, 99, 1, 1);
        odds(x, 2, 0, 99, 0, 1);
        int[][] wrong = {{-1, 0, 0, 0, 0}, {11, 0, 0, 0, 0}, {0, -1, 0, 0, 0}, {0, 2, 0, 0, 0}, {0, 0, -1, 0, 0},
            {0, 0, 4, 0, 0}, {0, 0, 0, -1, 0}, {0, 0, 0, 100, 0}, {0, 0, 0, 0, -1}, {0, 0, 0, 0, 2}};
        for (int[] w : wrong) {
            Check.due("a wrong luck", x.luck(w[0], w[1], w[2], w[3], w[4]), HorseSigns.BAD);
        }
        Check.due("believed(0, 3) is as it was", x.believed(0, 3), 2);
    }

    private static void allEight() {
        HorseSigns x = Check.told("plain 0 1;on 0 0 0 3;on 0 0 0 3;on 0 0 0 3;on 0 0 0 3;"
                + "on 0 0 0 3;on 0 0 0 3;on 0 0 0 3;on 0 0 0 3;");
        odds(x, 3, 3, 0, 99993439L, 100000000L);
        means(x, 3, 1, 99993439L, 100000000L);
        means(x, 3, 20, 3 * 99993439L, 100000000L);
    }

    private static void mean() {
        means(new HorseSigns(), 3, 20, 0, 1);
        HorseSigns x = Check.told("plain 0 1;plain 0 1;on 0 0 0 3;on 1 1 1 1;");
        means(x, 0, 0, 0, 1);
        means(x, 0, 1, 1, 1);
        means(x, 5, 1, 1, 2);
        means(x, 5, 2, 3, 2);
        means(x, 3, 20, 14, 5);
        means(x, 10, 20, 0, 1);
        int[][] wrong = {{-1, 0, 0}, {11, 0, 0}, {0, -1, 0}, {0, 21, 0}, {0, 0, -1}, {0, 0, 2}};
        for (int[] w : wrong) {
            Check.due("a wrong mean", x.mean(w[0], w[1], w[2]), HorseSigns.BAD);
        }
        Check.due("rule(2) is as it was", x.rule(2), 0);
        Check.due("rule(1) is as it was", x.rule(1), 2);
    }

    public static void main(String[] args) {
        luck();
        allEight();
        mean();
        Check.finish("OddsTest");
    }
}
