import java.util.function.ToLongBiFunction;
import java.util.function.ToLongFunction;

/**
 * Every number of every call just within its bounds and just outside of them, every other refusal, the
 * order of the answers where several fit, and: what is refused changes nothing.
 */
public final class RefusedTest {
    private static final int BAD = HorseSigns.BAD, STATE = HorseSigns.STATE, FULL = HorseSigns.FULL;
    private static final int LEAST = Integer.MIN_VALUE, GREATEST = Integer.MAX_VALUE;
    private static final Preparation NOTHING = x -> { };

    private interface Preparation {
        void on(HorseSigns x);
    }

    /** An object that holds something of everything: three riders, six reports, four seen, images, sheets, a tape. */
    private static HorseSigns held() {
        HorseSigns x = Check.told("plain 0 60;marshal 3 40;usurper 7 20;");
        x.cast(24);
        x.rely(0, 5);
        x.rely(2, 0);
        x.send(1, 0, 0, 2);
        x.send(2, 1, 0, 1);
        x.keep(1);
        x.send(2, 3, 1, 3);
        x.send(4, 0, 2, 3);
        x.days(3);
        x.keep(0);
        x.send(5, 1, 2, 2);
        x.send(99, 3, 1, 0);
        x.days(1);
        x.see(0, 0, x.rider(0, 1));
        x.see(2, 1, x.ahead(1, 2, 0));
        x.see(4, 2, x.ahead(2, 4, 0));
        x.see(20, 2, x.ahead(2, 20, 0));
        fillSheets(x);
        x.feed('$');
        x.text();
        x.read(0, 1, 0, 1);
        tellTape(x, "quiet 5 6;");
        return x;
    }

    private static void fillSheets(HorseSigns x) {
        for (int k = 0; k < 3; k++) {
            x.sheet(k, k, 8);
            for (int i = 0; i < 8; i++) {
                x.lay(k, i, (i + k) % 3);
            }
        }
    }

    private static void tellTape(HorseSigns x, String text) {
        for (int i = 0; i < text.length(); i++) {
            x.feed(text.charAt(i));
        }
    }

    private static void refusedBehind(Preparation first, String call, ToLongFunction<HorseSigns> asked, long due) {
        HorseSigns left = held();
        first.on(left);
        HorseSigns x = held();
        first.on(x);
        Check.due(call, asked.applyAsLong(x), due);
        Check.same(call + " is refused", View.of(x), View.of(left));
    }

    private static void refused(String call, ToLongFunction<HorseSigns> asked, long due) {
        refusedBehind(NOTHING, call, asked, due);
    }

    /** BAD outside of the bounds, which changes nothing, and not BAD at both of them. */
    private static void bounds(String call, int least, int most, ToLongBiFunction<HorseSigns, Integer> asked) {
        for (int v : new int[] {LEAST, least - 1, most + 1, GREATEST}) {
            refused(call + " of " + v, x -> asked.applyAsLong(x, v), BAD);
        }
        for (int v : new int[] {least, most}) {
            Check.due(call + " of " + v + " is BAD", asked.applyAsLong(held(), v) == BAD ? 1 : 0, 0);
        }
    }

    private static void whatIsTold() {
        bounds("feed(c)", 0, 127, (x, v) -> x.feed(v));
        bounds("end(n)", 0, 10, (x, v) -> x.end(v));
        bounds("rule(what)", 0, 6, (x, v) -> x.rule(v));
        bounds("rider(h, 0)", 0, 2, (x, v) -> x.rider(v, 0));
        bounds("rider(0, what)", 0, 5, (x, v) -> x.rider(0, v));
        bounds("report(i, 0)", 0, 5, (x, v) -> x.report(v, 0));
        bounds("report(0, what)", 0, 3, (x, v) -> x.report(0, v));
        bounds("trust(r)", 0, 3, (x, v) -> x.trust(v));
        bounds("told(h, 0, 0)", 0, 2, (x, v) -> x.told(v, 0, 0));
        bounds("told(0, e, 0)", 0, 3, (x, v) -> x.told(0, v, 0));
        bounds("told(0, 0, day)", 0, 99, (x, v) -> x.told(0, 0, v));
    }

    private static void whatIsChanged() {
        bounds("alter(h, 0, 1)", 0, 2, (x, v) -> x.alter(v, 0, 1));
        bounds("alter(0, what, 1)", 0, 2, (x, v) -> x.alter(0, v, 1));
        bounds("alter(1, 0, v)", 0, 3, (x, v) -> x.alter(1, 0, v));
        bounds("alter(1, 1, v)", 0, 15, (x, v) -> x.alter(1, 1, v));
        bounds("alter(1, 2, v)", 1, 99, (x, v) -> x.alter(1, 2, v));
        bounds("rely(r, 1)", 0, 3, (x, v) -> x.rely(v, 1));
        bounds("rely(1, v)", 0, 9, (x, v) -> x.rely(1, v));
        bounds("cast(v)", 1, 99, (x, v) -> x.cast(v));
        bounds("send(day, 0, 0, 0)", 0, 99, (x, v) -> x.send(v, 0, 0, 0));
        bounds("send(0, r, 0, 0)", 0, 3, (x, v) -> x.send(0, v, 0, 0));
        bounds("send(0, 0, h, 0)", 0, 2, (x, v) -> x.send(0, 0, v, 0));
        bounds("send(0, 0, 0, e)", 0, 3, (x, v) -> x.send(0, 0, 0, v));
        bounds("burn(n)", 0, 6, (x, v) -> x.burn(v));
    }

    private static void days() {
        bounds("days(n)", 0, 30, (x, v) -> x.days(v));
        for (int what = 0; what < 4; what++) {
            int asked = what;
            bounds("runs(n, " + what + ")", 0, 60, (x, v) -> x.runs(v, asked));
        }
        bounds("runs(1, what)", 0, 3, (x, v) -> x.runs(1, v));
        bounds("ahead(h, 1, 0)", 0, 2, (x, v) -> x.ahead(v, 1, 0));
        bounds("ahead(0, n, 0)", 0, 60, (x, v) -> x.ahead(0, v, 0));
        bounds("ahead(0, 1, what)", 0, 1, (x, v) -> x.ahead(0, 1, v));
        bounds("believed(h, 0)", 0, 2, (x, v) -> x.believed(v, 0));
        bounds("believed(0, day)", 0, 99, (x, v) -> x.believed(0, v));
        bounds("agrees(h)", 0, 2, (x, v) -> x.agrees(v));
    }

    private static void whatIsBest() {
        bounds("pose(h, 0)", 0, 2, (x, v) -> x.pose(v, 0));
        bounds("pose(0, e)", 0, 3, (x, v) -> x.pose(0, v));
        bounds("heavy(h, 0)", 0, 2, (x, v) -> x.heavy(v, 0));
        bounds("heavy(0, e)", 0, 3, (x, v) -> x.heavy(0, v));
        bounds("liar(n, 0)", 0, 60, (x, v) -> x.liar(v, 0));
        bounds("liar(1, what)", 0, 1, (x, v) -> x.liar(1, v));
        bounds("lose(n, 0)", 0, 60, (x, v) -> x.lose(v, 0));
        bounds("lose(1, what)", 0, 1, (x, v) -> x.lose(1, v));
        bounds("swap(n, 0)", 0, 60, (x, v) -> x.swap(v, 0));
        bounds("swap(1, what)", 0, 1, (x, v) -> x.swap(1, v));
        bounds("gain(r, 0, 0, 0)", 0, 3, (x, v) -> x.gain(v, 0, 0, 0));
        bounds("gain(0, h, 0, 0)", 0, 2, (x, v) -> x.gain(0, v, 0, 0));
        bounds("gain(0, 0, e, 0)", 0, 3, (x, v) -> x.gain(0, 0, v, 0));
        bounds("gain(0, 0, 0, day)", 0, 99, (x, v) -> x.gain(0, 0, 0, v));
        bounds("kind(h, 1, 0)", 0, 2, (x, v) -> x.kind(v, 1, 0));
        bounds("kind(0, n, 0)", 0, 60, (x, v) -> x.kind(0, v, 0));
        bounds("kind(0, 1, what)", 0, 1, (x, v) -> x.kind(0, 1, v));
    }

    private static void falseReports() {
        bounds("luck(v, 0, 0, 0, 0)", 0, 10, (x, v) -> x.luck(v, 0, 0, 0, 0));
        bounds("luck(1, h, 0, 0, 0)", 0, 2, (x, v) -> x.luck(1, v, 0, 0, 0));
        bounds("luck(1, 0, e, 0, 0)", 0, 3, (x, v) -> x.luck(1, 0, v, 0, 0));
        bounds("luck(1, 0, 0, day, 0)", 0, 99, (x, v) -> x.luck(1, 0, 0, v, 0));
        bounds("luck(1, 0, 0, 0, what)", 0, 1, (x, v) -> x.luck(1, 0, 0, 0, v));
        bounds("mean(v, 1, 0)", 0, 10, (x, v) -> x.mean(v, 1, 0));
        bounds("mean(1, n, 0)", 0, 20, (x, v) -> x.mean(1, v, 0));
        bounds("mean(1, 1, what)", 0, 1, (x, v) -> x.mean(1, 1, v));
    }

    private static void whatItWas() {
        bounds("see(n, 0, 0)", 0, 20, (x, v) -> x.see(v, 0, 0));
        bounds("see(0, h, 0)", 0, 2, (x, v) -> x.see(0, v, 0));
        bounds("see(0, 0, u)", 0, 15, (x, v) -> x.see(0, 0, v));
        bounds("forget(n)", 0, 4, (x, v) -> x.forget(v));
        bounds("kinds(h)", 0, 2, (x, v) -> x.kinds(v));
        bounds("ups(h)", 0, 2, (x, v) -> x.ups(v));
        bounds("ask(h, 0)", 0, 2, (x, v) -> x.ask(v, 0));
        bounds("ask(0, what)", 0, 1, (x, v) -> x.ask(0, v));
        bounds("drift(1, n, 0)", 1, 60, (x, v) -> x.drift(1, v, 0));
        bounds("drift(1, 1, what)", 0, 1, (x, v) -> x.drift(1, 1, v));
    }

    private static void imagesAndSheets() {
        bounds("keep(k)", 0, 1, (x, v) -> x.keep(v));
        bounds("back(k)", 0, 1, (x, v) -> x.back(v));
        bounds("sheet(k, 0, 1)", 0, 3, (x, v) -> x.sheet(v, 0, 1));
        bounds("sheet(0, lane, 1)", 0, 2, (x, v) -> x.sheet(0, v, 1));
        bounds("lay(k, 0, 1)", 0, 3, (x, v) -> x.lay(v, 0, 1));
        bounds("read(k, 0, 0, 1)", 0, 3, (x, v) -> x.read(v, 0, 0, 1));
        bounds("read(0, lane, 0, 1)", 0, 2, (x, v) -> x.read(0, v, 0, 1));
        bounds("read(3, 0, 0, n)", 0, 10, (x, v) -> x.read(3, 0, 0, v));
        bounds("count(what)", 0, 5, (x, v) -> x.count(v));
    }

    private static void sizesAndPlaces() {
        for (int n : new int[] {41, GREATEST}) {
            refused("sheet(1, 2, " + n + ")", x -> x.sheet(1, 2, n), BAD);
        }
        for (int n : new int[] {-1, LEAST}) {
            refused("sheet(1, 2, " + n + ")", x -> x.sheet(1, 2, n), -14);
        }
        for (int i : new int[] {-1, 8, LEAST, GREATEST}) {
            refused("lay(1, " + i + ", 2)", x -> x.lay(1, i, 2), -12);
            refused("lay(3, " + i + ", 2)", x -> x.lay(3, i, 2), -11);
        }
        refused("lay(3, 0, 2)", x -> x.lay(3, 0, 2), -11);
        refused("read(1, 1, 1, 1) of an END that is none", x -> {
            x.lay(1, 4, 9);
            long answer = x.read(1, 1, 1, 1);
            x.lay(1, 4, 2);
            return answer;
        }, -20);
    }

    private static void full() {
        Preparation tape = x -> {
            for (int i = 10; i < 160; i++) {
                x.feed(' ');
            }
        };
        refusedBehind(tape, "feed(32) behind 160", x -> x.feed(' '), FULL);
        refusedBehind(tape, "feed(128) behind 160: BAD comes first", x -> x.feed(128), BAD);
        refusedBehind(tape, "feed(-1) behind 160: BAD comes first", x -> x.feed(-1), BAD);
        refusedBehind(tape, "end(161)", x -> x.end(161), BAD);
        Preparation reports = x -> {
            x.send(6, 1, 1, 1);
            x.send(7, 2, 2, 2);
        };
        refusedBehind(reports, "send(0, 0, 0, 0) behind 8", x -> x.send(0, 0, 0, 0), FULL);
        refusedBehind(reports, "send(100, 0, 0, 0) behind 8: BAD comes first", x -> x.send(100, 0, 0, 0), BAD);
        refusedBehind(reports, "send(0, 4, 0, 0) behind 8: BAD comes first", x -> x.send(0, 4, 0, 0), BAD);
        refusedBehind(reports, "send(0, 0, 3, 0) behind 8: BAD comes first", x -> x.send(0, 0, 3, 0), BAD);
        refusedBehind(reports, "send(0, 0, 0, 4) behind 8: BAD comes first", x -> x.send(0, 0, 0, 4), BAD);
        refusedBehind(reports, "read(1, 1, 0, 1) behind 8", x -> x.read(1, 1, 0, 1), -20);
        refusedBehind(reports, "burn(9)", x -> x.burn(9), BAD);
        Preparation seven = x -> x.send(6, 1, 1, 1);
        refusedBehind(seven, "read(1, 1, 0, 2) behind 7: not even the 1st comes", x -> x.read(1, 1, 0, 2), -21);
        Preparation sightings = x -> {
            x.see(1, 0, 3);
            x.see(1, 0, 3);
        };
        refusedBehind(sightings, "see(0, 0, 0) behind 6", x -> x.see(0, 0, 0), FULL);
        refusedBehind(sightings, "see(21, 0, 0) behind 6: BAD comes first", x -> x.see(21, 0, 0), BAD);
        refusedBehind(sightings, "see(0, 3, 0) behind 6: BAD comes first", x -> x.see(0, 3, 0), BAD);
        refusedBehind(sightings, "see(0, 0, 16) behind 6: BAD comes first", x -> x.see(0, 0, 16), BAD);
        refusedBehind(sightings, "forget(7)", x -> x.forget(7), BAD);
    }

    private static void lastDays() {
        Preparation late = x -> {
            for (int i = 0; i < 33; i++) {
                x.days(30);
            }
            x.days(4);
        };
        refusedBehind(late, "days(2) behind 998", x -> x.days(2), FULL);
        refusedBehind(late, "days(30) behind 998", x -> x.days(30), FULL);
        refusedBehind(late, "days(31) behind 998: BAD comes first", x -> x.days(31), BAD);
        refusedBehind(late, "days(-1) behind 998: BAD comes first", x -> x.days(-1), BAD);
        HorseSigns x = held();
        late.on(x);
        Check.due("DAY", x.rule(2), 998);
        Check.due("days(1) behind 998", x.days(1), 0);
        Check.due("days(0) behind 999", x.days(0), 0);
        Check.due("days(1) behind 999", x.days(1), FULL);
        Check.due("DAY", x.rule(2), 999);
    }

    private static void noImage() {
        Preparation text = x -> x.text();
        refusedBehind(text, "back(0) behind a text", x -> x.back(0), STATE);
        refusedBehind(text, "back(1) behind a text", x -> x.back(1), STATE);
        refusedBehind(text, "back(2) behind a text: BAD comes first", x -> x.back(2), BAD);
        refusedBehind(text, "back(-1) behind a text: BAD comes first", x -> x.back(-1), BAD);
    }

    /** A text with a fault: only the tape and fault() are other than they were. */
    private static void faultyText() {
        HorseSigns left = held();
        left.end(0);
        left.feed('$');
        left.text();
        tellTape(left, "plain 1 2;");
        HorseSigns x = held();
        x.end(0);
        tellTape(x, "plain 1 1;bears 9;trust 0 9;on 9 0 0 0;on 9 0 0 0;`");
        Check.due("text() with a fault in its last byte", x.text(), -10 - 50);
        tellTape(x, "plain 1 2;");
        Check.same("a text with a fault", View.of(x), View.of(left));
    }

    public static void main(String[] args) {
        Check.same("the same calls", View.of(held()), View.of(held()));
        whatIsTold();
        whatIsChanged();
        days();
        whatIsBest();
        falseReports();
        whatItWas();
        imagesAndSheets();
        sizesAndPlaces();
        full();
        lastDays();
        noImage();
        faultyText();
        Check.finish("RefusedTest");
    }
}
