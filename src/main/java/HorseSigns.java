import java.util.Arrays;

/** Statues of riders whose legs tell how each one ended; ../shared/DOC.md holds the promises. */
public final class HorseSigns {
    public static final int BAD = -1, STATE = -2, FULL = -3, NONE = -4;

    private static final int RIDERS = 5, REPORTERS = 4, REPORTS = 8, KINDS = 4, ENDS = 4, POSES = 16;
    private static final int MOST_WEIGHT = 99, MOST_BEARING = 99, MOST_TRUST = 9, LAST_DAY = 99;
    private static final int DAYS_AT_ONCE = 30, DAYS_AHEAD = 60, DAYS_BY_ODDS = 20, DAYS_SEEN = 20;
    private static final int DAY_LIMIT = 1000, READ_AT_ONCE = 10, IMAGES = 2;
    private static final int FAULT_BASE = -10, REFUSED_BASE = -20;
    private static final int NULL_FAULT = 1, INDEX_FAULT = 2, CAST_FAULT = 3, SIZE_FAULT = 4;

    private final Square now = new Square();
    /** Every question of the kind "as it would be" is tried out here, so that no call makes objects. */
    private final Square trial = new Square();
    private final Square firstImage = new Square();
    private final Square secondImage = new Square();
    private final Tape tape = new Tape();
    private final Sightings sightings = new Sightings();
    private final Sheets sheets = new Sheets();
    private int imagesKept;
    private int textFault;
    private int readFault;

    public HorseSigns() {
    }

    // ---- the text, what there is

    public int feed(int c) {
        if (!within(c, 0, 127)) {
            return BAD;
        }
        return tape.append(c) ? tape.length : FULL;
    }

    public int end(int n) {
        if (!within(n, 0, tape.length)) {
            return BAD;
        }
        int had = tape.length;
        tape.length = n;
        return had;
    }

    public int text() {
        tape.parse(trial);
        tape.length = 0;
        textFault = tape.fault;
        if (textFault != 0) {
            return FAULT_BASE - tape.faultPlace;
        }
        now.copyFrom(trial);
        sightings.size = 0;
        imagesKept = 0;
        return tape.lines;
    }

    public int fault() {
        return textFault;
    }

    public int rule(int what) {
        switch (what) {
            case 0: return now.riders;
            case 1: return now.reports;
            case 2: return now.day;
            case 3: return now.clangs;
            case 4: return now.bearing;
            case 5: return now.agreeing();
            case 6: return now.standing();
            default: return BAD;
        }
    }

    public int rider(int h, int what) {
        if (!isRider(h)) {
            return BAD;
        }
        switch (what) {
            case 0: return now.kindOf[h];
            case 1: return now.upOf[h];
            case 2: return now.weightOf[h];
            case 3: return now.readingOf(h);
            case 4: return now.beliefOf(h, now.day);
            case 5: return now.holds(now.upOf[h], now.weightOf[h]) ? 1 : 0;
            default: return BAD;
        }
    }

    public int report(int i, int what) {
        if (!within(i, 0, now.reports - 1)) {
            return BAD;
        }
        switch (what) {
            case 0: return now.reportDay[i];
            case 1: return now.reportBy[i];
            case 2: return now.reportOn[i];
            case 3: return now.reportEnd[i];
            default: return BAD;
        }
    }

    public int trust(int r) {
        return isReporter(r) ? now.trustOf[r] : BAD;
    }

    public int told(int h, int e, int day) {
        if (!isRider(h) || !isEnd(e) || !isDay(day)) {
            return BAD;
        }
        now.sumTrust(h, day);
        return now.sums[e];
    }

    // ---- what is changed

    public int alter(int h, int what, int v) {
        if (!isRider(h)) {
            return BAD;
        }
        switch (what) {
            case 0: return within(v, 0, KINDS - 1) ? exchange(now.kindOf, h, v) : BAD;
            case 1: return within(v, 0, POSES - 1) ? exchange(now.upOf, h, v) : BAD;
            case 2: return within(v, 1, MOST_WEIGHT) ? exchange(now.weightOf, h, v) : BAD;
            default: return BAD;
        }
    }

    public int rely(int r, int v) {
        return isReporter(r) && within(v, 0, MOST_TRUST) ? exchange(now.trustOf, r, v) : BAD;
    }

    public int cast(int v) {
        if (!within(v, 1, MOST_BEARING)) {
            return BAD;
        }
        int was = now.bearing;
        now.bearing = v;
        return was;
    }

    public int send(int day, int r, int h, int e) {
        if (!isDay(day) || !isReporter(r) || !isRider(h) || !isEnd(e)) {
            return BAD;
        }
        return now.addReport(day, r, h, e) ? now.reports : FULL;
    }

    public int burn(int n) {
        if (!within(n, 0, now.reports)) {
            return BAD;
        }
        int had = now.reports;
        now.reports = n;
        return had;
    }

    // ---- days

    public int days(int n) {
        if (!within(n, 0, DAYS_AT_ONCE)) {
            return BAD;
        }
        return now.day + n >= DAY_LIMIT ? FULL : now.passDays(n);
    }

    public int runs(int n, int what) {
        if (!isRunAhead(n) || !within(what, 0, 3)) {
            return BAD;
        }
        trial.copyFrom(now);
        int rung = 0;
        int loudDays = 0;
        int firstLoud = NONE;
        for (int d = 1; d <= n; d++) {
            int today = trial.passDay();
            rung += today;
            loudDays += today > 0 ? 1 : 0;
            firstLoud = today > 0 && firstLoud == NONE ? d : firstLoud;
        }
        switch (what) {
            case 0: return rung;
            case 1: return trial.agreeing();
            case 2: return loudDays;
            default: return firstLoud;
        }
    }

    public int ahead(int h, int n, int what) {
        if (!isRider(h) || !isRunAhead(n) || !isChoice(what)) {
            return BAD;
        }
        trial.copyFrom(now);
        trial.passDays(n);
        return what == 0 ? trial.upOf[h] : trial.readingOf(h);
    }

    public int believed(int h, int day) {
        return isRider(h) && isDay(day) ? now.beliefOf(h, day) : BAD;
    }

    public int agrees(int h) {
        if (!isRider(h)) {
            return BAD;
        }
        trial.copyFrom(now);
        for (int d = 0; d <= DAYS_AHEAD; d++) {
            if (trial.isContent(h)) {
                return d;
            }
            trial.passDay();
        }
        return NONE;
    }

    // ---- what is best

    public int pose(int h, int e) {
        if (!isRider(h) || !isEnd(e)) {
            return BAD;
        }
        for (int up = 0; up < POSES; up++) {
            if (reading(now.kindOf[h], up) == e && now.holds(up, now.weightOf[h])) {
                return up;
            }
        }
        return NONE;
    }

    public int heavy(int h, int e) {
        if (!isRider(h) || !isEnd(e)) {
            return BAD;
        }
        int most = 0;
        for (int up = 0; up < POSES; up++) {
            if (reading(now.kindOf[h], up) == e) {
                most = Math.max(most, legsDown(up) * now.bearing);
            }
        }
        return most == 0 ? NONE : Math.min(most, MOST_WEIGHT);
    }

    public int need() {
        trial.copyFrom(now);
        int all = (1 << now.riders) - 1;
        for (int b = 1; b <= MOST_BEARING; b++) {
            trial.bearing = b;
            if (trial.standing() == all) {
                return b;
            }
        }
        return NONE;
    }

    public int liar(int n, int what) {
        if (!isRunAhead(n) || !isChoice(what)) {
            return BAD;
        }
        trial.copyFrom(now);
        int fewest = trial.passDays(n);
        int worst = NONE;
        for (int r = 0; r < REPORTERS; r++) {
            trial.copyFrom(now);
            trial.trustOf[r] = 0;
            int rung = trial.passDays(n);
            if (rung < fewest) {
                fewest = rung;
                worst = r;
            }
        }
        return what == 0 || worst == NONE ? worst : fewest;
    }

    public int lose(int n, int what) {
        if (!isRunAhead(n) || !isChoice(what)) {
            return BAD;
        }
        trial.copyFrom(now);
        int most = agreeingBehind(n);
        int best = NONE;
        for (int i = 0; i < now.reports; i++) {
            trial.copyFrom(now);
            trial.unheard = 1 << i;
            int agreeing = agreeingBehind(n);
            if (agreeing > most) {
                most = agreeing;
                best = i;
            }
        }
        return what == 0 || best == NONE ? best : most;
    }

    public int swap(int n, int what) {
        if (!isRunAhead(n) || !isChoice(what)) {
            return BAD;
        }
        trial.copyFrom(now);
        int most = agreeingBehind(n);
        int best = NONE;
        for (int i = 0; i < now.reports; i++) {
            for (int j = i + 1; j < now.reports; j++) {
                trial.copyFrom(now);
                trial.reportOn[i] = now.reportOn[j];
                trial.reportOn[j] = now.reportOn[i];
                int agreeing = agreeingBehind(n);
                if (agreeing > most) {
                    most = agreeing;
                    best = 10 * i + j;
                }
            }
        }
        return what == 0 || best == NONE ? best : most;
    }

    public int gain(int r, int h, int e, int day) {
        if (!isReporter(r) || !isRider(h) || !isEnd(e) || !isDay(day)) {
            return BAD;
        }
        trial.copyFrom(now);
        for (int t = 0; t <= MOST_TRUST; t++) {
            trial.trustOf[r] = t;
            if (trial.beliefOf(h, day) == e) {
                return t;
            }
        }
        return NONE;
    }

    public int kind(int h, int n, int what) {
        if (!isRider(h) || !isRunAhead(n) || !isChoice(what)) {
            return BAD;
        }
        int fewest = RIDERS * DAYS_AHEAD + 1;
        int best = 0;
        for (int k = 0; k < KINDS; k++) {
            trial.copyFrom(now);
            trial.kindOf[h] = k;
            int rung = trial.passDays(n);
            if (rung < fewest) {
                fewest = rung;
                best = k;
            }
        }
        return what == 0 ? best : fewest;
    }

    // ---- false reports

    public long luck(int v, int h, int e, int day, int what) {
        if (!isOdds(v) || !isRider(h) || !isEnd(e) || !isDay(day) || !isChoice(what)) {
            return BAD;
        }
        trial.copyFrom(now);
        int own = now.reportsOn(h);
        long sum = 0;
        for (int lost = 0; lost < 1 << REPORTS; lost++) {
            trial.unheard = lost;
            if ((lost & ~own) == 0 && trial.beliefOf(h, day) == e) {
                sum += oddsOf(v, lost, own);
            }
        }
        return lowestTerms(sum, power(10, Integer.bitCount(own)), what);
    }

    public long mean(int v, int n, int what) {
        if (!isOdds(v) || !within(n, 0, DAYS_BY_ODDS) || !isChoice(what)) {
            return BAD;
        }
        long sum = 0;
        for (int h = 0; h < now.riders; h++) {
            int others = REPORTS - Integer.bitCount(now.reportsOn(h));
            sum += clangsByOdds(v, h, n) * power(10, others);
        }
        return lowestTerms(sum, power(10, REPORTS), what);
    }

    // ---- what it was

    public int see(int n, int h, int u) {
        if (!within(n, 0, DAYS_SEEN) || !isRider(h) || !within(u, 0, POSES - 1)) {
            return BAD;
        }
        return sightings.append(n, h, u) ? sightings.size : FULL;
    }

    public int forget(int n) {
        if (!within(n, 0, sightings.size)) {
            return BAD;
        }
        int had = sightings.size;
        sightings.size = n;
        return had;
    }

    public int kinds(int h) {
        if (!isRider(h)) {
            return BAD;
        }
        int fitting = 0;
        for (int k = 0; k < KINDS; k++) {
            trial.copyFrom(now);
            trial.kindOf[h] = k;
            fitting |= sightings.comeTrueIn(trial) ? 1 << k : 0;
        }
        return fitting;
    }

    public int ups(int h) {
        return isRider(h) ? fittingUps(h) : BAD;
    }

    /**
     * Riders do not move one another's legs, so only a look at the rider itself can tell its poses
     * apart, and a look at once (behind 0 days) tells them all apart: no search can find better.
     */
    public int ask(int h, int what) {
        if (!isRider(h) || !isChoice(what)) {
            return BAD;
        }
        if (Integer.bitCount(fittingUps(h)) < 2) {
            return NONE;
        }
        return what == 0 ? h : 1;
    }

    // ---- by a seed

    public int drift(int seed, int n, int what) {
        if (!within(n, 1, DAYS_AHEAD) || !isChoice(what)) {
            return BAD;
        }
        if (now.riders == 0) {
            return STATE;
        }
        trial.copyFrom(now);
        int rung = 0;
        int grown = seed;
        for (int d = 0; d < n; d++) {
            grown = grown * 1103515245 + 12345;
            int got = (grown >>> 16) & 32767;
            trial.upOf[got % now.riders] = got / 16 % POSES;
            rung += trial.passDay();
        }
        return what == 0 ? rung : trial.agreeing();
    }

    // ---- images, sheets

    public int keep(int k) {
        if (!isImage(k)) {
            return BAD;
        }
        int was = imagesKept >> k & 1;
        image(k).copyFrom(now);
        imagesKept |= 1 << k;
        return was;
    }

    public int back(int k) {
        if (!isImage(k)) {
            return BAD;
        }
        if ((imagesKept >> k & 1) == 0) {
            return STATE;
        }
        now.copyFrom(image(k));
        return now.day;
    }

    public int sheet(int k, int lane, int n) {
        if (!sheets.isSheet(k) || !sheets.isLane(lane) || n > Sheets.CELLS) {
            return BAD;
        }
        if (n < 0) {
            return FAULT_BASE - SIZE_FAULT;
        }
        sheets.renew(k, lane, n);
        return 1;
    }

    public int lay(int k, int i, int v) {
        if (!sheets.isSheet(k)) {
            return BAD;
        }
        int found = sheets.faultOf(k, sheets.laneOf[k], i, 1);
        if (found != 0) {
            return FAULT_BASE - found;
        }
        sheets.put(k, i, v);
        return 1;
    }

    public int read(int k, int lane, int f, int n) {
        if (!sheets.isSheet(k) || !sheets.isLane(lane) || !within(n, 0, READ_AT_ONCE)) {
            return BAD;
        }
        int had = now.reports;
        for (int i = 0; i < n; i++) {
            // A fault ends it, so f is a true place once a report came, and this does not wrap.
            int at = f + 4 * i;
            int found = sheets.faultOf(k, lane, at, 4);
            if (found != 0) {
                readFault = found;
                return i;
            }
            if (sendFrom(k, at) < 0) {
                now.reports = had;
                return REFUSED_BASE - i;
            }
        }
        readFault = 0;
        return n;
    }

    public int torn() {
        return readFault;
    }

    public int count(int what) {
        switch (what) {
            case 0: return sightings.size;
            case 1: return Integer.bitCount(imagesKept);
            case 2: return tape.length;
            case 3: return sheets.sizeOf[0] < 0 ? NONE : sheets.sizeOf[0];
            case 4: return sumOfFirst(now.weightOf, now.riders);
            case 5: return sumOfFirst(now.trustOf, REPORTERS);
            default: return BAD;
        }
    }

    // ---- what numbers may be

    private static boolean within(int v, int least, int most) {
        return v >= least && v <= most;
    }

    private static boolean isReporter(int r) {
        return within(r, 0, REPORTERS - 1);
    }

    private static boolean isEnd(int e) {
        return within(e, 0, ENDS - 1);
    }

    private static boolean isDay(int day) {
        return within(day, 0, LAST_DAY);
    }

    private static boolean isRunAhead(int n) {
        return within(n, 0, DAYS_AHEAD);
    }

    private static boolean isChoice(int what) {
        return within(what, 0, 1);
    }

    private static boolean isOdds(int v) {
        return within(v, 0, 10);
    }

    private static boolean isImage(int k) {
        return within(k, 0, IMAGES - 1);
    }

    private boolean isRider(int h) {
        return within(h, 0, now.riders - 1);
    }

    // ---- small helps

    private static int exchange(int[] row, int i, int v) {
        int was = row[i];
        row[i] = v;
        return was;
    }

    private static int sumOfFirst(int[] row, int n) {
        int sum = 0;
        for (int i = 0; i < n && i < row.length; i++) {
            sum += row[i];
        }
        return sum;
    }

    private static int legsDown(int up) {
        return 4 - Integer.bitCount(up);
    }

    private static int reading(int kind, int up) {
        int plain = Math.min(3, Integer.bitCount(up));
        int marshal = Math.max(0, plain - 1);
        switch (kind) {
            case 0: return plain;
            case 1: return marshal;
            case 2: return 3 - plain;
            default: return (marshal + 2) % 4;
        }
    }

    private Square image(int k) {
        return k == 0 ? firstImage : secondImage;
    }

    private int sendFrom(int k, int at) {
        return send(sheets.cell(k, at), sheets.cell(k, at + 1),
                sheets.cell(k, at + 2), sheets.cell(k, at + 3));
    }

    private int agreeingBehind(int n) {
        trial.passDays(n);
        return Integer.bitCount(trial.agreeing());
    }

    private int fittingUps(int h) {
        int fitting = 0;
        for (int up = 0; up < POSES; up++) {
            trial.copyFrom(now);
            trial.upOf[h] = up;
            fitting |= sightings.comeTrueIn(trial) ? 1 << up : 0;
        }
        return fitting;
    }

    /**
     * One rider's clangs, each way its own reports may be lost weighed by its odds. Riders do not move
     * one another's legs, and those of whom nothing is heard stay still, so each has its sum by itself.
     */
    private long clangsByOdds(int v, int h, int n) {
        int own = now.reportsOn(h);
        long sum = 0;
        for (int lost = 0; lost < 1 << REPORTS; lost++) {
            if ((lost & ~own) == 0) {
                trial.copyFrom(now);
                trial.unheard = lost | ~own;
                sum += oddsOf(v, lost, own) * trial.passDays(n);
            }
        }
        return sum;
    }

    /** Out of 10 to the power of how many there are: just those that are lost are false. */
    private static long oddsOf(int v, int lost, int all) {
        int falseOnes = Integer.bitCount(lost);
        return power(v, falseOnes) * power(10 - v, Integer.bitCount(all) - falseOnes);
    }

    private static long power(int base, int exponent) {
        long product = 1;
        for (int i = 0; i < exponent; i++) {
            product *= base;
        }
        return product;
    }

    private static long lowestTerms(long numerator, long denominator, int what) {
        long shared = denominator;
        long rest = numerator;
        // Euclid's steps for longs are fewer than a hundred.
        for (int i = 0; i < 100 && rest != 0; i++) {
            long left = shared % rest;
            shared = rest;
            rest = left;
        }
        long part = what == 0 ? numerator : denominator;
        return shared == 0 ? part : part / shared;
    }

    /** All that an image holds: riders, what a leg bears, trust, reports, the day, the clangs. */
    private static final class Square {
        private static final int MOST_CLANGS = 9999, FIRST_BEARING = 25, FIRST_TRUST = 1;

        int riders;
        final int[] kindOf = new int[RIDERS];
        final int[] upOf = new int[RIDERS];
        final int[] weightOf = new int[RIDERS];
        int bearing;
        final int[] trustOf = new int[REPORTERS];
        int reports;
        final int[] reportDay = new int[REPORTS];
        final int[] reportBy = new int[REPORTS];
        final int[] reportOn = new int[REPORTS];
        final int[] reportEnd = new int[REPORTS];
        /** Reports (bits) that are as if they were not; only trials have any. */
        int unheard;
        int day;
        int clangs;
        final int[] sums = new int[ENDS];

        Square() {
            makeNew();
        }

        void makeNew() {
            riders = 0;
            bearing = FIRST_BEARING;
            Arrays.fill(trustOf, FIRST_TRUST);
            reports = 0;
            unheard = 0;
            day = 0;
            clangs = 0;
        }

        void copyFrom(Square other) {
            riders = other.riders;
            System.arraycopy(other.kindOf, 0, kindOf, 0, RIDERS);
            System.arraycopy(other.upOf, 0, upOf, 0, RIDERS);
            System.arraycopy(other.weightOf, 0, weightOf, 0, RIDERS);
            bearing = other.bearing;
            System.arraycopy(other.trustOf, 0, trustOf, 0, REPORTERS);
            reports = other.reports;
            System.arraycopy(other.reportDay, 0, reportDay, 0, REPORTS);
            System.arraycopy(other.reportBy, 0, reportBy, 0, REPORTS);
            System.arraycopy(other.reportOn, 0, reportOn, 0, REPORTS);
            System.arraycopy(other.reportEnd, 0, reportEnd, 0, REPORTS);
            unheard = other.unheard;
            day = other.day;
            clangs = other.clangs;
        }

        void addRider(int kind, int up, int weight) {
            if (riders < RIDERS) {
                kindOf[riders] = kind;
                upOf[riders] = up;
                weightOf[riders] = weight;
                riders++;
            }
        }

        boolean addReport(int onDay, int by, int on, int end) {
            if (reports >= REPORTS) {
                return false;
            }
            reportDay[reports] = onDay;
            reportBy[reports] = by;
            reportOn[reports] = on;
            reportEnd[reports] = end;
            reports++;
            return true;
        }

        int readingOf(int h) {
            return reading(kindOf[h], upOf[h]);
        }

        boolean holds(int up, int weight) {
            return weight <= legsDown(up) * bearing;
        }

        /** The reports (bits) on a rider. */
        int reportsOn(int h) {
            int found = 0;
            for (int i = 0; i < reports; i++) {
                found |= reportOn[i] == h ? 1 << i : 0;
            }
            return found;
        }

        void sumTrust(int h, int upToDay) {
            Arrays.fill(sums, 0);
            for (int i = 0; i < reports; i++) {
                if (reportOn[i] == h && reportDay[i] <= upToDay && (unheard >> i & 1) == 0) {
                    sums[reportEnd[i]] += trustOf[reportBy[i]];
                }
            }
        }

        int beliefOf(int h, int onDay) {
            sumTrust(h, onDay);
            int most = 0;
            int belief = NONE;
            for (int e = 0; e < ENDS; e++) {
                if (sums[e] > most) {
                    most = sums[e];
                    belief = e;
                }
            }
            return belief;
        }

        boolean isContent(int h) {
            int belief = beliefOf(h, day);
            return belief == NONE || belief == readingOf(h);
        }

        int agreeing() {
            int found = 0;
            for (int h = 0; h < riders; h++) {
                found |= isContent(h) ? 1 << h : 0;
            }
            return found;
        }

        int standing() {
            int found = 0;
            for (int h = 0; h < riders; h++) {
                found |= holds(upOf[h], weightOf[h]) ? 1 << h : 0;
            }
            return found;
        }

        /** One rider's part of a day: 1 if a hoof moved. */
        int moveHoof(int h) {
            int belief = beliefOf(h, day);
            int off = Math.abs(readingOf(h) - belief);
            if (belief == NONE || off == 0) {
                return 0;
            }
            for (int leg = 0; leg < 4; leg++) {
                int up = upOf[h] ^ 1 << leg;
                if (Math.abs(reading(kindOf[h], up) - belief) < off && holds(up, weightOf[h])) {
                    upOf[h] = up;
                    return 1;
                }
            }
            return 0;
        }

        int passDay() {
            int rung = 0;
            for (int h = 0; h < riders; h++) {
                rung += moveHoof(h);
            }
            clangs = Math.min(MOST_CLANGS, clangs + rung);
            day++;
            return rung;
        }

        int passDays(int n) {
            int limit = day + n;
            int rung = 0;
            for (int d = 0; d < n && day < limit; d++) {
                int today = passDay();
                rung += today;
                if (today == 0) {
                    day = dayOfNextReport(limit);
                }
            }
            return rung;
        }

        /** Behind a day on which no hoof moved all days are like it, until a report has its day. */
        private int dayOfNextReport(int limit) {
            int next = limit;
            for (int i = 0; i < reports; i++) {
                if (reportDay[i] >= day && reportDay[i] < next) {
                    next = reportDay[i];
                }
            }
            return next;
        }
    }

    /** The tape, and the reading of it. */
    private static final class Tape {
        private static final int BYTES = 160;
        private static final int THE_END = 0, NAME = 1, NUMBER = 2, SEMICOLON = 3;
        private static final int NO_TOKEN = 1, MISPLACED = 2, OUT_OF_BOUNDS = 3, TWICE = 4, TOO_MANY = 5, NO_RIDER = 6;

        final byte[] bytes = new byte[BYTES];
        int length;
        int fault;
        int faultPlace;
        int lines;
        private int token;
        private int tokenFrom;
        private int tokenTo;
        private boolean bearingTold;
        private int trustsTold;

        boolean append(int c) {
            if (length >= BYTES) {
                return false;
            }
            bytes[length] = (byte) c;
            length++;
            return true;
        }

        /** What the tape tells is put into the draft, which is of use if fault is 0 then. */
        void parse(Square draft) {
            draft.makeNew();
            fault = 0;
            faultPlace = 0;
            lines = 0;
            tokenTo = 0;
            bearingTold = false;
            trustsTold = 0;
            take();
            // A line has a byte at least, so there are no more lines than bytes.
            for (int i = 0; i < BYTES && fault == 0 && token != THE_END; i++) {
                takeLine(draft);
                lines++;
                take();
            }
            if (fault == 0 && tellsOfMissingRider(draft)) {
                fail(NO_RIDER, length);
            }
        }

        private void fail(int number, int place) {
            // Only the first fault counts.
            if (fault == 0) {
                fault = number;
                faultPlace = place;
            }
        }

        private int byteAt(int place) {
            return place >= 0 && place < length && place < BYTES ? bytes[place] : -1;
        }

        private static boolean isLetter(int c) {
            return c >= 'a' && c <= 'z';
        }

        private static boolean isFigure(int c) {
            return c >= '0' && c <= '9';
        }

        /** The next token becomes the token, if there was no fault. */
        private void take() {
            if (fault != 0) {
                return;
            }
            tokenFrom = tokenTo;
            while (tokenFrom < length && byteAt(tokenFrom) == ' ') {
                tokenFrom++;
            }
            tokenTo = tokenFrom;
            int c = byteAt(tokenFrom);
            if (tokenFrom >= length) {
                token = THE_END;
            } else if (isLetter(c)) {
                token = NAME;
                while (tokenTo < length && isLetter(byteAt(tokenTo))) {
                    tokenTo++;
                }
            } else if (isFigure(c)) {
                token = NUMBER;
                while (tokenTo < length && isFigure(byteAt(tokenTo))) {
                    tokenTo++;
                }
                if (tokenTo - tokenFrom > 2) {
                    fail(NO_TOKEN, tokenFrom);
                }
            } else if (c == ';') {
                token = SEMICOLON;
                tokenTo++;
            } else {
                fail(NO_TOKEN, tokenFrom);
            }
        }

        private void takeLine(Square draft) {
            if (isNamed("plain")) {
                takeRider(draft, 0);
            } else if (isNamed("marshal")) {
                takeRider(draft, 1);
            } else if (isNamed("usurper")) {
                takeRider(draft, 2);
            } else if (isNamed("quiet")) {
                takeRider(draft, 3);
            } else if (isNamed("bears")) {
                takeBearing(draft);
            } else if (isNamed("trust")) {
                takeTrust(draft);
            } else if (isNamed("on")) {
                takeReport(draft);
            } else {
                fail(MISPLACED, tokenFrom);
            }
        }

        private boolean isNamed(String word) {
            if (token != NAME || tokenTo - tokenFrom != word.length()) {
                return false;
            }
            for (int i = 0; i < word.length(); i++) {
                if (byteAt(tokenFrom + i) != word.charAt(i)) {
                    return false;
                }
            }
            return true;
        }

        /** The number that comes next; of no meaning if there is a fault then. */
        private int takeNumber(int least, int most) {
            take();
            if (fault != 0) {
                return least;
            }
            if (token != NUMBER) {
                fail(MISPLACED, tokenFrom);
                return least;
            }
            int number = 0;
            for (int i = tokenFrom; i < tokenTo; i++) {
                number = number * 10 + byteAt(i) - '0';
            }
            if (number < least || number > most) {
                fail(OUT_OF_BOUNDS, tokenFrom);
                return least;
            }
            return number;
        }

        private void takeSemicolon() {
            take();
            if (token != SEMICOLON) {
                fail(MISPLACED, tokenFrom);
            }
        }

        private void takeRider(Square draft, int kind) {
            if (draft.riders >= RIDERS) {
                fail(TOO_MANY, tokenFrom);
            }
            int up = takeNumber(0, POSES - 1);
            int weight = takeNumber(1, MOST_WEIGHT);
            takeSemicolon();
            if (fault == 0) {
                draft.addRider(kind, up, weight);
            }
        }

        private void takeBearing(Square draft) {
            if (bearingTold) {
                fail(TWICE, tokenFrom);
            }
            draft.bearing = takeNumber(1, MOST_BEARING);
            takeSemicolon();
            bearingTold = true;
        }

        private void takeTrust(Square draft) {
            int reporter = takeNumber(0, REPORTERS - 1);
            if ((trustsTold >> reporter & 1) == 1) {
                fail(TWICE, tokenFrom);
            }
            draft.trustOf[reporter] = takeNumber(0, MOST_TRUST);
            takeSemicolon();
            trustsTold |= 1 << reporter;
        }

        private void takeReport(Square draft) {
            if (draft.reports >= REPORTS) {
                fail(TOO_MANY, tokenFrom);
            }
            int onDay = takeNumber(0, LAST_DAY);
            int by = takeNumber(0, REPORTERS - 1);
            int on = takeNumber(0, RIDERS - 1);
            int end = takeNumber(0, ENDS - 1);
            takeSemicolon();
            if (fault == 0) {
                draft.addReport(onDay, by, on, end);
            }
        }

        private static boolean tellsOfMissingRider(Square draft) {
            for (int i = 0; i < draft.reports; i++) {
                if (draft.reportOn[i] >= draft.riders) {
                    return true;
                }
            }
            return false;
        }
    }

    /** What was seen: behind so many days from now on, which legs of a rider are up. */
    private static final class Sightings {
        private static final int MOST = 6;

        int size;
        private final int[] behind = new int[MOST];
        private final int[] whose = new int[MOST];
        private final int[] up = new int[MOST];

        boolean append(int n, int h, int u) {
            if (size >= MOST) {
                return false;
            }
            behind[size] = n;
            whose[size] = h;
            up[size] = u;
            size++;
            return true;
        }

        /** Whether all was as seen while days pass in the trial, which is used up by it. */
        boolean comeTrueIn(Square trial) {
            int last = lastDay();
            for (int d = 0; d <= last; d++) {
                if (!areTrueOn(d, trial)) {
                    return false;
                }
                trial.passDay();
            }
            return true;
        }

        private int lastDay() {
            int last = -1;
            for (int i = 0; i < size; i++) {
                last = Math.max(last, behind[i]);
            }
            return last;
        }

        private boolean areTrueOn(int d, Square trial) {
            for (int i = 0; i < size; i++) {
                if (behind[i] == d && trial.upOf[whose[i]] != up[i]) {
                    return false;
                }
            }
            return true;
        }
    }

    /** Rows of cells; what a machine would refuse is looked for ahead of every use. */
    private static final class Sheets {
        static final int CELLS = 40;
        private static final int SHEETS = 4, LANES = 3, NOTHING = -1;

        final int[] laneOf = new int[SHEETS];
        final int[] sizeOf = new int[SHEETS];
        private final int[] cells = new int[SHEETS * CELLS];

        Sheets() {
            Arrays.fill(sizeOf, NOTHING);
        }

        boolean isSheet(int k) {
            return k >= 0 && k < SHEETS;
        }

        boolean isLane(int lane) {
            return lane >= 0 && lane < LANES;
        }

        void renew(int k, int lane, int n) {
            laneOf[k] = lane;
            sizeOf[k] = n;
            for (int i = 0; i < CELLS; i++) {
                cells[k * CELLS + i] = 0;
            }
        }

        /** What the machine finds, in its own order, when so many cells from one on are used as of a lane. */
        int faultOf(int k, int lane, int from, int many) {
            if (sizeOf[k] == NOTHING) {
                return NULL_FAULT;
            }
            if (laneOf[k] != lane) {
                return CAST_FAULT;
            }
            return from < 0 || from > sizeOf[k] - many ? INDEX_FAULT : 0;
        }

        int cell(int k, int i) {
            return cells[k * CELLS + i];
        }

        void put(int k, int i, int v) {
            int kept = laneOf[k] == 0 ? (byte) v : laneOf[k] == 1 ? (short) v : v;
            cells[k * CELLS + i] = kept;
        }
    }
}
