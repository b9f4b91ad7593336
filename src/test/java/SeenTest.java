/** Promises 31 to 36: see, forget, kinds, ups, ask, drift. */
public final class SeenTest {
    private static void seeing() {
        HorseSigns x = Check.told("plain 0 1;plain 0 1;");
        int[][] wrong = {{-1, 0, 0}, {21, 0, 0}, {0, -1, 0}, {0, 2, 0}, {0, 0, -1}, {0, 0, 16}};
        for (int i = 1; i <= 6; i++) {
            Check.due("see(20, 1, 15)", x.see(20, 1, 15), i);
        }
        for (int[] w : wrong) {
            Check.due("a wrong see", x.see(w[0], w[1], w[2]), HorseSigns.BAD);
        }
        Check.due("the 7th", x.see(0, 0, 0), HorseSigns.FULL);
        Check.due("forget(7)", x.forget(7), HorseSigns.BAD);
        Check.due("forget(-1)", x.forget(-1), HorseSigns.BAD);
        Check.due("forget(6)", x.forget(6), 6);
        Check.due("forget(2)", x.forget(2), 6);
        Check.due("count(0)", x.count(0), 2);
        for (int[] w : wrong) {
            Check.due("a wrong see", x.see(w[0], w[1], w[2]), HorseSigns.BAD);
        }
        Check.due("see(0, 0, 0)", x.see(0, 0, 0), 3);
        Check.due("forget(0)", x.forget(0), 3);
        Check.due("count(0)", x.count(0), 0);
    }

    private static void fitting() {
        HorseSigns x = Check.told("plain 0 60;marshal 3 40;on 1 0 0 2;");
        Check.due("kinds(0) with nothing seen", x.kinds(0), 15);
        Check.due("ups(0) with nothing seen", x.ups(0), 65535);
        x.see(2, 0, 1);
        Check.due("kinds(0)", x.kinds(0), 5);
        Check.due("ups(0)", x.ups(0), 3);
        Check.due("kinds(1)", x.kinds(1), 15);
        Check.due("ups(1)", x.ups(1), 65535);
        x.see(1, 0, 0);
        Check.due("kinds(0), more seen", x.kinds(0), 5);
        Check.due("ups(0), more seen", x.ups(0), 1);
        x.see(20, 1, 7);
        Check.due("kinds(0), not as it is", x.kinds(0), 0);
        Check.due("ups(0), not as it is", x.ups(0), 0);
        Check.due("kinds(1), not as it is", x.kinds(1), 0);
        Check.due("ups(1)", x.ups(1), 128);
        Check.due("rider(0, 1) is as it was", x.rider(0, 1), 0);
        Check.due("rule(2) is as it was", x.rule(2), 0);
        Check.due("kinds(2)", x.kinds(2), HorseSigns.BAD);
        Check.due("kinds(-1)", x.kinds(-1), HorseSigns.BAD);
        Check.due("ups(2)", x.ups(2), HorseSigns.BAD);
        Check.due("ups(-1)", x.ups(-1), HorseSigns.BAD);
    }

    private static void fromNowOn() {
        HorseSigns x = Check.told("plain 0 60;on 1 0 0 1;");
        x.see(1, 0, 0);
        Check.due("ups(0) on day 0", x.ups(0), 1);
        x.days(2);
        Check.due("ups(0) on day 2: no pose has none up then", x.ups(0), 0);
        x.forget(0);
        x.see(1, 0, 1);
        Check.due("ups(0) on day 2: of two up leg 0 comes down first", x.ups(0), 1 + 2);
    }

    private static void asking() {
        HorseSigns x = Check.told("plain 0 60;plain 0 60;on 1 0 1 2;");
        Check.due("ask(0, 0)", x.ask(0, 0), 0);
        Check.due("ask(0, 1)", x.ask(0, 1), 1);
        Check.due("ask(1, 0)", x.ask(1, 0), 1);
        Check.due("ask(1, 1)", x.ask(1, 1), 1);
        x.see(2, 1, 1);
        Check.due("ups(1)", x.ups(1), 3);
        Check.due("ask(1, 0), two are left", x.ask(1, 0), 1);
        Check.due("ask(1, 1), two are left", x.ask(1, 1), 1);
        x.forget(0);
        x.see(0, 1, 0);
        Check.due("ask(1, 0), one is left", x.ask(1, 0), HorseSigns.NONE);
        Check.due("ask(1, 1), one is left", x.ask(1, 1), HorseSigns.NONE);
        Check.due("ask(0, 0)", x.ask(0, 0), 0);
        x.see(0, 1, 1);
        Check.due("ask(1, 0), none is left", x.ask(1, 0), HorseSigns.NONE);
        Check.due("ask(0, 0), none is left", x.ask(0, 0), HorseSigns.NONE);
        Check.due("ask(2, 0)", x.ask(2, 0), HorseSigns.BAD);
        Check.due("ask(-1, 0)", x.ask(-1, 0), HorseSigns.BAD);
        Check.due("ask(0, -1)", x.ask(0, -1), HorseSigns.BAD);
        Check.due("ask(0, 2)", x.ask(0, 2), HorseSigns.BAD);
    }

    private static void drifting() {
        HorseSigns x = new HorseSigns();
        Check.due("drift(1, 1, 0) of none", x.drift(1, 1, 0), HorseSigns.STATE);
        Check.due("drift(1, 0, 0) of none", x.drift(1, 0, 0), HorseSigns.BAD);
        Check.due("drift(1, 61, 0) of none", x.drift(1, 61, 0), HorseSigns.BAD);
        Check.due("drift(1, 1, 2) of none", x.drift(1, 1, 2), HorseSigns.BAD);
        Check.due("drift(1, 1, -1) of none", x.drift(1, 1, -1), HorseSigns.BAD);
        // From seed 0 the first is 12345: got 0, so rider 0 has none up.
        x = Check.told("plain 3 1;plain 1 1;on 0 0 0 2;on 0 0 1 1;");
        Check.due("drift(0, 1, 0)", x.drift(0, 1, 0), 1);
        Check.due("drift(0, 1, 1)", x.drift(0, 1, 1), 2);
        // From seed 1 the first is 1103527590: got 16838, so rider 0 has 16838 / 16 % 16 = 12 up: 2, as told.
        Check.due("drift(1, 1, 0)", x.drift(1, 1, 0), 0);
        Check.due("drift(1, 1, 1)", x.drift(1, 1, 1), 3);
        // The second from seed 0 is 1103515245 * 12345 + 12345, got 21468, so rider 0 has 13 up: 3, and one comes down.
        Check.due("drift(0, 2, 0)", x.drift(0, 2, 0), 2);
        Check.due("drift(0, 2, 1)", x.drift(0, 2, 1), 3);
        Check.due("rider(0, 1) is as it was", x.rider(0, 1), 3);
        Check.due("rule(2) is as it was", x.rule(2), 0);
        Check.due("drift(0, 0, 0)", x.drift(0, 0, 0), HorseSigns.BAD);
        Check.due("drift(0, 61, 0)", x.drift(0, 61, 0), HorseSigns.BAD);
    }

    public static void main(String[] args) {
        seeing();
        fitting();
        fromNowOn();
        asking();
        drifting();
        Check.finish("SeenTest");
    }
}
