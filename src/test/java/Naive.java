import java.math.BigInteger;
import java.util.ArrayList;
import java.util.HashMap;
import java.util.List;
import java.util.Map;
import java.util.function.IntPredicate;
import java.util.regex.Matcher;
import java.util.regex.Pattern;

/**
 * The document once more, as slowly and as literally as may be: whole runs instead of one rider's,
 * full searches instead of what follows from them, and a sheet that the machine itself refuses.
 */
final class Naive {
    static final int BAD = -1, STATE = -2, FULL = -3, NONE = -4;

    /** All that an image holds. */
    static final class World {
        List<int[]> riders = new ArrayList<>();
        List<int[]> reports = new ArrayList<>();
        int[] trust = {1, 1, 1, 1};
        int bears = 25;
        int day;
        int clangs;

        World copy() {
            World w = new World();
            riders.forEach(r -> w.riders.add(r.clone()));
            reports.forEach(r -> w.reports.add(r.clone()));
            w.trust = trust.clone();
            w.bears = bears;
            w.day = day;
            w.clangs = clangs;
            return w;
        }

        static int reads(int kind, int up) {
            int legs = 0;
            for (int leg = 0; leg < 4; leg++) {
                legs += up >> leg & 1;
            }
            int plain = legs > 3 ? 3 : legs;
            int marshal = plain == 0 ? 0 : plain - 1;
            return new int[] {plain, marshal, 3 - plain, (marshal + 2) % 4}[kind];
        }

        boolean stands(int up, int weight) {
            int borne = 0;
            for (int leg = 0; leg < 4; leg++) {
                borne += (up >> leg & 1) == 0 ? bears : 0;
            }
            return weight <= borne;
        }

        int told(int h, int e, int onDay) {
            return reports.stream().filter(r -> r[0] <= onDay && r[2] == h && r[3] == e).mapToInt(r -> trust[r[1]]).sum();
        }

        int believed(int h, int onDay) {
            int best = NONE;
            for (int e = 3; e >= 0; e--) {
                int sum = told(h, e, onDay);
                if (sum > 0 && (best == NONE || sum >= told(h, best, onDay))) {
                    best = e;
                }
            }
            return best;
        }

        boolean agrees(int h) {
            int b = believed(h, day);
            return b == NONE || b == reads(riders.get(h)[0], riders.get(h)[1]);
        }

        int bits(IntPredicate p) {
            int bits = 0;
            for (int h = 0; h < riders.size(); h++) {
                bits += p.test(h) ? 1 << h : 0;
            }
            return bits;
        }

        int agreeing() {
            return bits(this::agrees);
        }

        int standing() {
            return bits(h -> stands(riders.get(h)[1], riders.get(h)[2]));
        }

        int aDay() {
            int rung = 0;
            for (int h = 0; h < riders.size(); h++) {
                if (agrees(h)) {
                    continue;
                }
                int[] r = riders.get(h);
                int b = believed(h, day);
                for (int leg = 0; leg < 4; leg++) {
                    int up = r[1] ^ (1 << leg);
                    if (Math.abs(reads(r[0], up) - b) < Math.abs(reads(r[0], r[1]) - b) && stands(up, r[2])) {
                        r[1] = up;
                        rung++;
                        break;
                    }
                }
            }
            clangs = Math.min(9999, clangs + rung);
            day++;
            return rung;
        }

        int someDays(int n) {
            int rung = 0;
            for (int i = 0; i < n; i++) {
                rung += aDay();
            }
            return rung;
        }
    }

    World now = new World();
    final World[] images = new World[2];
    final StringBuilder tape = new StringBuilder();
    final List<int[]> seen = new ArrayList<>();
    final Object[] sheets = new Object[4];
    int fault;
    int torn;

    private static final class Fault extends RuntimeException {
        private static final long serialVersionUID = 1;
        final int number;
        final int place;

        Fault(int number, int place) {
            this.number = number;
            this.place = place;
        }
    }

    private static boolean in(int v, int least, int most) {
        return v >= least && v <= most;
    }

    private boolean noRider(int h) {
        return !in(h, 0, now.riders.size() - 1);
    }

    boolean hasRider(int h) {
        return !noRider(h);
    }

    int feed(int c) {
        if (!in(c, 0, 127)) {
            return BAD;
        }
        if (tape.length() == 160) {
            return FULL;
        }
        tape.append((char) c);
        return tape.length();
    }

    int end(int n) {
        if (!in(n, 0, tape.length())) {
            return BAD;
        }
        int had = tape.length();
        tape.setLength(n);
        return had;
    }

    // ---- the text, by a pattern for tokens

    private String all;
    private int at;
    private int from;

    private String token() {
        Matcher m = Pattern.compile(" *([a-z]+|[0-9]+|;|\\z|[^ ])", Pattern.DOTALL).matcher(all);
        if (!m.find(at) || m.start() != at) {
            throw new IllegalStateException("no token, nor the end, at " + at);
        }
        from = m.start(1);
        at = m.end(1);
        String t = m.group(1);
        if (!t.matches("[a-z]*|[0-9]{1,2}|;")) {
            throw new Fault(1, from);
        }
        return t;
    }

    private int number(int least, int most) {
        String t = token();
        if (!t.matches("[0-9]+")) {
            throw new Fault(2, from);
        }
        int n = Integer.parseInt(t);
        if (!in(n, least, most)) {
            throw new Fault(3, from);
        }
        return n;
    }

    private int lines(World w) {
        List<String> kinds = List.of("plain", "marshal", "usurper", "quiet");
        boolean bears = false;
        List<Integer> trusted = new ArrayList<>();
        int lines = 0;
        for (String t = token(); !t.isEmpty(); t = token(), lines++) {
            if (kinds.contains(t)) {
                if (w.riders.size() == 5) {
                    throw new Fault(5, from);
                }
                w.riders.add(new int[] {kinds.indexOf(t), number(0, 15), number(1, 99)});
            } else if (t.equals("bears")) {
                if (bears) {
                    throw new Fault(4, from);
                }
                bears = true;
                w.bears = number(1, 99);
            } else if (t.equals("trust")) {
                int r = number(0, 3);
                if (trusted.contains(r)) {
                    throw new Fault(4, from);
                }
                trusted.add(r);
                w.trust[r] = number(0, 9);
            } else if (t.equals("on")) {
                if (w.reports.size() == 8) {
                    throw new Fault(5, from);
                }
                w.reports.add(new int[] {number(0, 99), number(0, 3), number(0, 4), number(0, 3)});
            } else {
                throw new Fault(2, from);
            }
            if (!token().equals(";")) {
                throw new Fault(2, from);
            }
        }
        if (w.reports.stream().anyMatch(r -> r[2] >= w.riders.size())) {
            throw new Fault(6, all.length());
        }
        return lines;
    }

    int text() {
        all = tape.toString();
        at = 0;
        tape.setLength(0);
        World w = new World();
        try {
            int lines = lines(w);
            now = w;
            fault = 0;
            seen.clear();
            images[0] = null;
            images[1] = null;
            return lines;
        } catch (Fault f) {
            fault = f.number;
            return -10 - f.place;
        }
    }

    int fault() {
        return fault;
    }

    int rule(int what) {
        return !in(what, 0, 6) ? BAD : new int[] {now.riders.size(), now.reports.size(), now.day, now.clangs,
            now.bears, now.agreeing(), now.standing()}[what];
    }

    int rider(int h, int what) {
        if (noRider(h) || !in(what, 0, 5)) {
            return BAD;
        }
        int[] r = now.riders.get(h);
        return new int[] {r[0], r[1], r[2], World.reads(r[0], r[1]), now.believed(h, now.day),
            now.stands(r[1], r[2]) ? 1 : 0}[what];
    }

    int report(int i, int what) {
        return !in(i, 0, now.reports.size() - 1) || !in(what, 0, 3) ? BAD : now.reports.get(i)[what];
    }

    int trust(int r) {
        return in(r, 0, 3) ? now.trust[r] : BAD;
    }

    int told(int h, int e, int day) {
        return noRider(h) || !in(e, 0, 3) || !in(day, 0, 99) ? BAD : now.told(h, e, day);
    }

    int alter(int h, int what, int v) {
        if (noRider(h) || !in(what, 0, 2) || !in(v, what == 2 ? 1 : 0, new int[] {3, 15, 99}[what])) {
            return BAD;
        }
        int was = now.riders.get(h)[what];
        now.riders.get(h)[what] = v;
        return was;
    }

    int rely(int r, int v) {
        if (!in(r, 0, 3) || !in(v, 0, 9)) {
            return BAD;
        }
        int was = now.trust[r];
        now.trust[r] = v;
        return was;
    }

    int cast(int v) {
        if (!in(v, 1, 99)) {
            return BAD;
        }
        int was = now.bears;
        now.bears = v;
        return was;
    }

    int send(int day, int r, int h, int e) {
        if (!in(day, 0, 99) || !in(r, 0, 3) || noRider(h) || !in(e, 0, 3)) {
            return BAD;
        }
        if (now.reports.size() == 8) {
            return FULL;
        }
        now.reports.add(new int[] {day, r, h, e});
        return now.reports.size();
    }

    int burn(int n) {
        if (!in(n, 0, now.reports.size())) {
            return BAD;
        }
        int had = now.reports.size();
        now.reports.subList(n, had).clear();
        return had;
    }

    int days(int n) {
        return !in(n, 0, 30) ? BAD : now.day + n >= 1000 ? FULL : now.someDays(n);
    }

    int runs(int n, int what) {
        if (!in(n, 0, 60) || !in(what, 0, 3)) {
            return BAD;
        }
        if (what == 0) {
            return now.copy().someDays(n);
        }
        World w = now.copy();
        if (what == 1) {
            w.someDays(n);
            return w.agreeing();
        }
        int loud = 0;
        int first = NONE;
        for (int i = n; i >= 1; i--) {
            World early = now.copy();
            early.someDays(i - 1);
            if (early.aDay() > 0) {
                loud++;
                first = i;
            }
        }
        return what == 2 ? loud : first;
    }

    int ahead(int h, int n, int what) {
        if (noRider(h) || !in(n, 0, 60) || !in(what, 0, 1)) {
            return BAD;
        }
        World w = now.copy();
        w.someDays(n);
        int[] r = w.riders.get(h);
        return what == 0 ? r[1] : World.reads(r[0], r[1]);
    }

    int believed(int h, int day) {
        return noRider(h) || !in(day, 0, 99) ? BAD : now.believed(h, day);
    }

    int agrees(int h) {
        if (noRider(h)) {
            return BAD;
        }
        for (int n = 0; n <= 60; n++) {
            World w = now.copy();
            w.someDays(n);
            if (w.agrees(h)) {
                return n;
            }
        }
        return NONE;
    }

    int pose(int h, int e) {
        if (noRider(h) || !in(e, 0, 3)) {
            return BAD;
        }
        int[] r = now.riders.get(h);
        int least = NONE;
        for (int up = 15; up >= 0; up--) {
            least = World.reads(r[0], up) == e && now.stands(up, r[2]) ? up : least;
        }
        return least;
    }

    int heavy(int h, int e) {
        if (noRider(h) || !in(e, 0, 3)) {
            return BAD;
        }
        for (int weight = 99; weight >= 1; weight--) {
            for (int up = 0; up < 16; up++) {
                if (World.reads(now.riders.get(h)[0], up) == e && now.stands(up, weight)) {
                    return weight;
                }
            }
        }
        return NONE;
    }

    int need() {
        World w = now.copy();
        int least = NONE;
        for (w.bears = 99; w.bears >= 1; w.bears--) {
            least = Integer.bitCount(w.standing()) == w.riders.size() ? w.bears : least;
        }
        return least;
    }

    int liar(int n, int what) {
        if (!in(n, 0, 60) || !in(what, 0, 1)) {
            return BAD;
        }
        int asItIs = now.copy().someDays(n);
        int best = NONE;
        int fewest = asItIs;
        for (int r = 3; r >= 0; r--) {
            World w = now.copy();
            w.trust[r] = 0;
            int rung = w.someDays(n);
            if (rung < asItIs && rung <= fewest) {
                fewest = rung;
                best = r;
            }
        }
        return what == 0 || best == NONE ? best : fewest;
    }

    private static int agreeingBehind(World w, int n) {
        w.someDays(n);
        return Integer.bitCount(w.agreeing());
    }

    int lose(int n, int what) {
        if (!in(n, 0, 60) || !in(what, 0, 1)) {
            return BAD;
        }
        int asItIs = agreeingBehind(now.copy(), n);
        int best = NONE;
        int most = asItIs;
        for (int i = now.reports.size() - 1; i >= 0; i--) {
            World w = now.copy();
            w.reports.remove(i);
            int agreeing = agreeingBehind(w, n);
            if (agreeing > asItIs && agreeing >= most) {
                most = agreeing;
                best = i;
            }
        }
        return what == 0 || best == NONE ? best : most;
    }

    int swap(int n, int what) {
        if (!in(n, 0, 60) || !in(what, 0, 1)) {
            return BAD;
        }
        int asItIs = agreeingBehind(now.copy(), n);
        int best = NONE;
        int most = asItIs;
        for (int pair = 77; pair >= 0; pair--) {
            int i = pair / 10;
            int j = pair % 10;
            if (i >= j || j >= now.reports.size()) {
                continue;
            }
            World w = now.copy();
            w.reports.get(i)[2] = now.reports.get(j)[2];
            w.reports.get(j)[2] = now.reports.get(i)[2];
            int agreeing = agreeingBehind(w, n);
            if (agreeing > asItIs && agreeing >= most) {
                most = agreeing;
                best = pair;
            }
        }
        return what == 0 || best == NONE ? best : most;
    }

    int gain(int r, int h, int e, int day) {
        if (!in(r, 0, 3) || noRider(h) || !in(e, 0, 3) || !in(day, 0, 99)) {
            return BAD;
        }
        World w = now.copy();
        int least = NONE;
        for (int t = 9; t >= 0; t--) {
            w.trust[r] = t;
            least = w.believed(h, day) == e ? t : least;
        }
        return least;
    }

    int kind(int h, int n, int what) {
        if (noRider(h) || !in(n, 0, 60) || !in(what, 0, 1)) {
            return BAD;
        }
        int best = 0;
        int fewest = Integer.MAX_VALUE;
        for (int k = 3; k >= 0; k--) {
            World w = now.copy();
            w.riders.get(h)[0] = k;
            int rung = w.someDays(n);
            if (rung <= fewest) {
                fewest = rung;
                best = k;
            }
        }
        return what == 0 ? best : fewest;
    }

    /** What is counted of each way in which reports may be false, weighed by its odds. */
    private interface Counted {
        int of(World w);
    }

    private long byOdds(int v, int what, Counted counted) {
        int all = now.reports.size();
        BigInteger sum = BigInteger.ZERO;
        for (int lost = 0; lost < 1 << all; lost++) {
            World w = now.copy();
            BigInteger odds = BigInteger.ONE;
            for (int i = all - 1; i >= 0; i--) {
                boolean isFalse = (lost >> i & 1) == 1;
                odds = odds.multiply(BigInteger.valueOf(isFalse ? v : 10 - v));
                if (isFalse) {
                    w.reports.remove(i);
                }
            }
            sum = sum.add(odds.multiply(BigInteger.valueOf(counted.of(w))));
        }
        BigInteger below = BigInteger.TEN.pow(all);
        BigInteger shared = sum.gcd(below);
        return (what == 0 ? sum : below).divide(shared).longValueExact();
    }

    long luck(int v, int h, int e, int day, int what) {
        if (!in(v, 0, 10) || noRider(h) || !in(e, 0, 3) || !in(day, 0, 99) || !in(what, 0, 1)) {
            return BAD;
        }
        return byOdds(v, what, w -> w.believed(h, day) == e ? 1 : 0);
    }

    long mean(int v, int n, int what) {
        if (!in(v, 0, 10) || !in(n, 0, 20) || !in(what, 0, 1)) {
            return BAD;
        }
        return byOdds(v, what, w -> w.someDays(n));
    }

    int see(int n, int h, int u) {
        if (!in(n, 0, 20) || noRider(h) || !in(u, 0, 15)) {
            return BAD;
        }
        if (seen.size() == 6) {
            return FULL;
        }
        seen.add(new int[] {n, h, u});
        return seen.size();
    }

    int forget(int n) {
        if (!in(n, 0, seen.size())) {
            return BAD;
        }
        int had = seen.size();
        seen.subList(n, had).clear();
        return had;
    }

    private boolean asSeen(World from) {
        for (int[] s : seen) {
            World w = from.copy();
            w.someDays(s[0]);
            if (w.riders.get(s[1])[1] != s[2]) {
                return false;
            }
        }
        return true;
    }

    private int fitting(int h, int what, int many) {
        int bits = 0;
        for (int v = 0; v < many; v++) {
            World w = now.copy();
            w.riders.get(h)[what] = v;
            bits += asSeen(w) ? 1 << v : 0;
        }
        return bits;
    }

    int kinds(int h) {
        return noRider(h) ? BAD : fitting(h, 0, 4);
    }

    int ups(int h) {
        return noRider(h) ? BAD : fitting(h, 1, 16);
    }

    int ask(int h, int what) {
        if (noRider(h) || !in(what, 0, 1)) {
            return BAD;
        }
        int fitting = ups(h);
        int fewest = Integer.bitCount(fitting);
        int best = NONE;
        for (int n = 0; n <= 20; n++) {
            for (int g = 0; g < now.riders.size(); g++) {
                Map<Integer, Integer> left = new HashMap<>();
                for (int up = 0; up < 16; up++) {
                    if ((fitting >> up & 1) == 1) {
                        World w = now.copy();
                        w.riders.get(h)[1] = up;
                        w.someDays(n);
                        left.merge(w.riders.get(g)[1], 1, Integer::sum);
                    }
                }
                int worst = left.values().stream().mapToInt(i -> i).max().orElse(0);
                if (worst < fewest) {
                    fewest = worst;
                    best = 10 * n + g;
                }
            }
        }
        return what == 0 || best == NONE ? best : fewest;
    }

    int drift(int seed, int n, int what) {
        if (!in(n, 1, 60) || !in(what, 0, 1)) {
            return BAD;
        }
        if (now.riders.isEmpty()) {
            return STATE;
        }
        World w = now.copy();
        BigInteger s = BigInteger.valueOf(seed);
        int rung = 0;
        for (int i = 0; i < n; i++) {
            s = s.multiply(BigInteger.valueOf(1103515245)).add(BigInteger.valueOf(12345));
            int got = s.shiftRight(16).mod(BigInteger.valueOf(32768)).intValueExact();
            w.riders.get(got % w.riders.size())[1] = got / 16 % 16;
            rung += w.aDay();
        }
        return what == 0 ? rung : w.agreeing();
    }

    int keep(int k) {
        if (!in(k, 0, 1)) {
            return BAD;
        }
        int was = images[k] == null ? 0 : 1;
        images[k] = now.copy();
        return was;
    }

    int back(int k) {
        if (!in(k, 0, 1)) {
            return BAD;
        }
        if (images[k] == null) {
            return STATE;
        }
        now = images[k].copy();
        return now.day;
    }

    private static int numberOf(RuntimeException found) {
        return found instanceof NullPointerException ? 1
            : found instanceof ArrayIndexOutOfBoundsException ? 2
            : found instanceof ClassCastException ? 3
            : found instanceof NegativeArraySizeException ? 4 : 0;
    }

    int sheet(int k, int lane, int n) {
        if (!in(k, 0, 3) || !in(lane, 0, 2) || n > 40) {
            return BAD;
        }
        try {
            sheets[k] = lane == 0 ? new byte[n] : lane == 1 ? new short[n] : new int[n];
            return 1;
        } catch (RuntimeException e) {
            return -10 - numberOf(e);
        }
    }

    int lay(int k, int i, int v) {
        if (!in(k, 0, 3)) {
            return BAD;
        }
        try {
            if (sheets[k] instanceof byte[]) {
                ((byte[]) sheets[k])[i] = (byte) v;
            } else if (sheets[k] instanceof short[]) {
                ((short[]) sheets[k])[i] = (short) v;
            } else {
                ((int[]) sheets[k])[i] = v;
            }
            return 1;
        } catch (RuntimeException e) {
            return -10 - numberOf(e);
        }
    }

    private int cell(int k, int lane, int i) {
        return lane == 0 ? ((byte[]) sheets[k])[i] : lane == 1 ? ((short[]) sheets[k])[i] : ((int[]) sheets[k])[i];
    }

    int read(int k, int lane, int f, int n) {
        if (!in(k, 0, 3) || !in(lane, 0, 2) || !in(n, 0, 10)) {
            return BAD;
        }
        int had = now.reports.size();
        int came = 0;
        int found = 0;
        try {
            for (; came < n; came++) {
                int[] r = new int[4];
                for (int j = 0; j < 4; j++) {
                    r[j] = cell(k, lane, f + 4 * came + j);
                }
                if (send(r[0], r[1], r[2], r[3]) < 0) {
                    now.reports.subList(had, now.reports.size()).clear();
                    return -20 - came;
                }
            }
        } catch (RuntimeException e) {
            found = numberOf(e);
        }
        torn = found;
        return came;
    }

    int torn() {
        return torn;
    }

    int count(int what) {
        switch (what) {
            case 0: return seen.size();
            case 1: return (images[0] == null ? 0 : 1) + (images[1] == null ? 0 : 1);
            case 2: return tape.length();
            case 3: return sheets[0] == null ? NONE : java.lang.reflect.Array.getLength(sheets[0]);
            case 4: return now.riders.stream().mapToInt(r -> r[2]).sum();
            case 5: return now.trust[0] + now.trust[1] + now.trust[2] + now.trust[3];
            default: return BAD;
        }
    }
}
