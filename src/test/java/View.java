/** All that can be asked of an object, as one text. The object is used up by it; some 230 calls. */
final class View {
    private final HorseSigns x;
    private final StringBuilder seen = new StringBuilder();

    private View(HorseSigns x) {
        this.x = x;
    }

    static String of(HorseSigns x) {
        View view = new View(x);
        view.counts();
        view.state("now");
        view.sightings();
        view.images();
        view.sheets();
        view.tape();
        return view.seen.toString();
    }

    private void put(String name, long answer) {
        seen.append(name).append('=').append(answer).append(' ');
    }

    private void counts() {
        put("fault", x.fault());
        put("torn", x.torn());
        for (int what = 0; what < 6; what++) {
            put("count" + what, x.count(what));
        }
    }

    private void state(String when) {
        seen.append(when).append(": ");
        for (int what = 0; what < 7; what++) {
            put("rule" + what, x.rule(what));
        }
        for (int h = 0; h < x.rule(0); h++) {
            for (int what = 0; what < 6; what++) {
                put("rider" + h + what, x.rider(h, what));
            }
        }
        for (int i = 0; i < x.rule(1); i++) {
            for (int what = 0; what < 4; what++) {
                put("report" + i + what, x.report(i, what));
            }
        }
        for (int r = 0; r < 4; r++) {
            put("trust" + r, x.trust(r));
        }
    }

    private void sightings() {
        for (int h = 0; h < x.rule(0); h++) {
            put("kinds" + h, x.kinds(h));
            put("ups" + h, x.ups(h));
        }
    }

    private void images() {
        for (int k = 0; k < 2; k++) {
            put("back" + k, x.back(k));
            state("image " + k);
        }
    }

    /** Two reports of each sheet, by whichever lane it is. */
    private void sheets() {
        for (int k = 0; k < 4; k++) {
            x.burn(0);
            for (int lane = 0; lane < 3; lane++) {
                put("read" + k + lane, x.read(k, lane, 0, 2));
                put("torn", x.torn());
            }
            for (int i = 0; i < x.rule(1); i++) {
                for (int what = 0; what < 4; what++) {
                    put("cell", x.report(i, what));
                }
            }
        }
    }

    private void tape() {
        put("text", x.text());
        put("fault", x.fault());
        for (int what = 0; what < 3; what++) {
            put("told" + what, x.rider(0, what));
        }
    }
}
