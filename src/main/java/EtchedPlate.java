/**
 * An intaglio plate: its lines, the prints pulled from it, the plan of dips for
 * the target tones, and the last few states to go back to.
 */
public final class EtchedPlate {
    public static final int OUT_OF_RANGE = -2;
    public static final int IMPOSSIBLE = -3;
    public static final int FULL = -4;
    public static final int NOTHING_SAVED = -5;
    public static final int NONE = -1;

    private static final int MAX_LINES = 10;
    private static final int MAX_PRINTS = 12;
    private static final int MAX_SAVED = 5;
    private static final int MAX_DEPTH = 99;
    private static final int MAX_MINUTES = 99;
    private static final int MAX_AMOUNT = 99;
    private static final int MAX_STRENGTH = 5;
    private static final int MAX_TONE = 9;
    private static final int DEPTHS_A_TONE = 10;
    private static final int PRINTS_A_WEAR = 3;
    private static final int ERROR_CODES = 4;

    private final Plate now;
    private final Plate[] saved;
    private final Plan plan;
    private final int[] targets;
    private final int[] errors;
    private int savedCount;

    public EtchedPlate() {
        now = new Plate();
        saved = new Plate[MAX_SAVED];
        for (int k = 0; k < MAX_SAVED; k++) {
            saved[k] = new Plate();
        }
        plan = new Plan();
        targets = new int[MAX_LINES];
        errors = new int[ERROR_CODES];
        savedCount = 0;
    }

    // ---- work

    public int draw() {
        if (now.lineCount >= MAX_LINES) {
            return refuse(FULL);
        }
        save();
        return now.addLine();
    }

    public int setStrength(int strength) {
        if (strength < 1 || strength > MAX_STRENGTH) {
            return refuse(OUT_OF_RANGE);
        }
        save();
        int previous = now.strength;
        now.strength = strength;
        return previous;
    }

    public int dip(int minutes) {
        if (minutes < 0 || minutes > MAX_MINUTES) {
            return refuse(OUT_OF_RANGE);
        }
        save();
        return now.etch(minutes);
    }

    public int varnish(int lines) {
        if (!isSetBelow(lines, now.lineCount)) {
            return refuse(OUT_OF_RANGE);
        }
        save();
        now.varnishedLines |= lines;
        return Integer.bitCount(now.varnishedLines);
    }

    public int clean() {
        save();
        int before = Integer.bitCount(now.varnishedLines);
        now.varnishedLines = 0;
        return before;
    }

    public int burnish(int line, int amount) {
        if (!isLine(line) || amount < 1 || amount > MAX_AMOUNT) {
            return refuse(OUT_OF_RANGE);
        }
        save();
        return now.rubDown(line, amount);
    }

    public int pull() {
        if (now.printCount >= MAX_PRINTS) {
            return refuse(FULL);
        }
        save();
        return now.addPrint();
    }

    // ---- plate

    public int lines() {
        return now.lineCount;
    }

    public int depth(int line) {
        if (!isLine(line)) {
            return refuse(OUT_OF_RANGE);
        }
        return now.depths[line];
    }

    public int varnished() {
        return now.varnishedLines;
    }

    public int meanDepthBits() {
        int count = now.lineCount;
        if (count < 1) {
            return 0;
        }
        return bitsOf((float) now.depthSum() / (float) count);
    }

    // ---- prints

    public int prints() {
        return now.printCount;
    }

    public int stateOf(int print) {
        if (!isPrint(print)) {
            return refuse(OUT_OF_RANGE);
        }
        return now.printStates[print];
    }

    public int tone(int print, int line) {
        if (!isPrint(print) || !isLine(line)) {
            return refuse(OUT_OF_RANGE);
        }
        return now.printedTone(print, line);
    }

    public int mayPrecede(int i, int j) {
        if (!isPrint(i) || !isPrint(j)) {
            return refuse(OUT_OF_RANGE);
        }
        return now.nowhereDarker(i, j) ? 1 : 0;
    }

    public int orders(int prints) {
        if (!isSetBelow(prints, now.printCount)) {
            return refuse(OUT_OF_RANGE);
        }
        return now.countOrders(prints);
    }

    public int bestState() {
        int best = NONE;
        int least = 0;
        for (int print = 0; print < now.printCount; print++) {
            int difference = now.differenceFrom(print, targets);
            if (best == NONE || difference < least) {
                best = print;
                least = difference;
            }
        }
        return best == NONE ? NONE : now.printStates[best];
    }

    // ---- plans

    public int setTarget(int line, int tone) {
        if (line < 0 || line >= MAX_LINES || tone < 0 || tone > MAX_TONE) {
            return refuse(OUT_OF_RANGE);
        }
        int previous = targets[line];
        targets[line] = tone;
        return previous;
    }

    public int dips() {
        plan.make(now, targets);
        if (plan.blockedLines != 0) {
            return refuse(IMPOSSIBLE);
        }
        return plan.totalCount;
    }

    public int dipMinutes(int dip) {
        int fault = faultOfDip(dip);
        if (fault != 0) {
            return fault;
        }
        return dip < plan.totalCount ? plan.minutesAt(dip) : NONE;
    }

    public int dipVarnish(int dip) {
        int fault = faultOfDip(dip);
        if (fault != 0) {
            return fault;
        }
        return dip < plan.totalCount ? plan.finishedBefore(dip) : NONE;
    }

    public int obstacles() {
        plan.make(now, targets);
        return plan.blockedLines;
    }

    // ---- state

    public int undo() {
        if (savedCount < 1) {
            return refuse(NOTHING_SAVED);
        }
        savedCount--;
        now.copyFrom(saved[savedCount]);
        return savedCount;
    }

    public int errorCount(int code) {
        if (code < NOTHING_SAVED || code > OUT_OF_RANGE) {
            return refuse(OUT_OF_RANGE);
        }
        return errors[OUT_OF_RANGE - code];
    }

    public long digest() {
        long h = 2689;
        for (int k = 0; k < ERROR_CODES; k++) {
            h = mix(h, errors[k]);
        }
        h = mixLines(h);
        h = mixPrints(h);
        h = mixPlan(h);
        h = mix(h, now.countOrders(allBelow(now.printCount)));
        return mix(h, savedCount);
    }

    private static long mix(long h, int value) {
        return 31 * h + value;
    }

    private long mixLines(long start) {
        long h = mix(start, now.strength);
        h = mix(h, now.lineCount);
        for (int line = 0; line < now.lineCount; line++) {
            h = mix(h, now.depths[line]);
            h = mix(h, targets[line]);
        }
        return mix(h, now.varnishedLines);
    }

    private long mixPrints(long start) {
        long h = mix(start, now.printCount);
        for (int print = 0; print < now.printCount; print++) {
            h = mix(h, now.printStates[print]);
            for (int line = 0; line < now.lineCount; line++) {
                h = mix(h, now.printedTone(print, line));
            }
        }
        return h;
    }

    private long mixPlan(long start) {
        plan.make(now, targets);
        long h = mix(start, plan.blockedLines);
        if (plan.blockedLines != 0) {
            return h;
        }
        h = mix(h, plan.totalCount);
        for (int dip = 0; dip < plan.totalCount; dip++) {
            h = mix(h, plan.minutesAt(dip));
            h = mix(h, plan.finishedBefore(dip));
        }
        return h;
    }

    /** Counts an error; the code is one of the four that have a counter. */
    private int refuse(int code) {
        errors[OUT_OF_RANGE - code]++;
        return code;
    }

    /** The error that a question about a dip ends with, 0 if none; leaves the plan made. */
    private int faultOfDip(int dip) {
        if (dip < 0) {
            return refuse(OUT_OF_RANGE);
        }
        plan.make(now, targets);
        return plan.blockedLines != 0 ? refuse(IMPOSSIBLE) : 0;
    }

    private boolean isLine(int line) {
        return line >= 0 && line < now.lineCount;
    }

    private boolean isPrint(int print) {
        return print >= 0 && print < now.printCount;
    }

    private static int allBelow(int count) {
        return (1 << count) - 1;
    }

    private static boolean isSetBelow(int set, int count) {
        return (set & ~allBelow(count)) == 0;
    }

    private static boolean contains(int set, int member) {
        return ((set >> member) & 1) != 0;
    }

    private void save() {
        if (savedCount >= MAX_SAVED) {
            dropOldest();
        }
        saved[savedCount].copyFrom(now);
        savedCount++;
    }

    /** The dropped state's object goes to the end, to be written over: none is made anew. */
    private void dropOldest() {
        Plate oldest = saved[0];
        for (int k = 1; k < MAX_SAVED; k++) {
            saved[k - 1] = saved[k];
        }
        saved[MAX_SAVED - 1] = oldest;
        savedCount = MAX_SAVED - 1;
    }

    /**
     * The bits of a float that is 0 or a normal positive number, by hand because
     * LANGUAGE.md's library has no function for it. Doubling, halving and taking
     * 1 away from a number below 2 are exact, so nothing is rounded here.
     */
    private static int bitsOf(float value) {
        if (value <= 0.0f) {
            return 0;
        }
        float significand = value;
        int exponent = 127;
        while (significand >= 2.0f && exponent < 254) {
            significand = significand / 2.0f;
            exponent++;
        }
        while (significand < 1.0f && exponent > 1) {
            significand = significand * 2.0f;
            exponent--;
        }
        return (exponent << 23) + (int) ((significand - 1.0f) * 8388608.0f);
    }

    /** All that undo brings back: everything but the error counters and the targets. */
    private static final class Plate {
        final int[] depths = new int[MAX_LINES];
        final int[] printStates = new int[MAX_PRINTS];
        /** The tones of print p stand from p * MAX_LINES on, 0 for lines not yet drawn. */
        final int[] printTones = new int[MAX_PRINTS * MAX_LINES];
        int lineCount = 0;
        int varnishedLines = 0;
        int strength = 2;
        int printCount = 0;
        int stateNumber = 1;
        boolean workedSincePrint = false;

        void copyFrom(Plate other) {
            System.arraycopy(other.depths, 0, depths, 0, MAX_LINES);
            System.arraycopy(other.printStates, 0, printStates, 0, MAX_PRINTS);
            System.arraycopy(other.printTones, 0, printTones, 0, MAX_PRINTS * MAX_LINES);
            lineCount = other.lineCount;
            varnishedLines = other.varnishedLines;
            strength = other.strength;
            printCount = other.printCount;
            stateNumber = other.stateNumber;
            workedSincePrint = other.workedSincePrint;
        }

        /** For fewer than MAX_LINES lines. */
        int addLine() {
            int line = lineCount;
            depths[line] = 0;
            lineCount++;
            workedSincePrint = true;
            return line;
        }

        int etch(int minutes) {
            if (minutes > 0) {
                workedSincePrint = true;
            }
            int deepened = 0;
            for (int line = 0; line < lineCount; line++) {
                int before = depths[line];
                if (!contains(varnishedLines, line)) {
                    depths[line] = Math.min(MAX_DEPTH, before + strength * minutes);
                }
                if (depths[line] > before) {
                    deepened++;
                }
            }
            return deepened;
        }

        int rubDown(int line, int amount) {
            depths[line] = Math.max(0, depths[line] - amount);
            workedSincePrint = true;
            return depths[line];
        }

        /** For fewer than MAX_PRINTS prints. */
        int addPrint() {
            int print = printCount;
            if (print > 0 && workedSincePrint) {
                stateNumber++;
            }
            workedSincePrint = false;
            printStates[print] = stateNumber;
            for (int line = 0; line < MAX_LINES; line++) {
                int depth = line < lineCount ? depths[line] : 0;
                printTones[print * MAX_LINES + line] = depth / DEPTHS_A_TONE;
            }
            printCount++;
            if (printCount % PRINTS_A_WEAR == 0) {
                wear();
            }
            return print;
        }

        private void wear() {
            for (int line = 0; line < lineCount; line++) {
                depths[line] = Math.max(0, depths[line] - 1);
            }
        }

        int depthSum() {
            int sum = 0;
            for (int line = 0; line < lineCount; line++) {
                sum += depths[line];
            }
            return sum;
        }

        int printedTone(int print, int line) {
            return printTones[print * MAX_LINES + line];
        }

        /** Whether no line has a greater tone in print i than in print j. */
        boolean nowhereDarker(int i, int j) {
            for (int line = 0; line < lineCount; line++) {
                if (printedTone(i, line) > printedTone(j, line)) {
                    return false;
                }
            }
            return true;
        }

        /**
         * "May come before" is transitive, so two prints that may not come before
         * one another leave no order, and otherwise only prints that may both
         * change places: each print can stand in any place among its likes.
         */
        int countOrders(int prints) {
            int count = 1;
            for (int print = 0; print < printCount; print++) {
                if (contains(prints, print)) {
                    count *= placesAmongLikes(prints, print);
                }
            }
            return count;
        }

        /** 1 and the number of earlier members with equal tones; 0 if one is incomparable. */
        private int placesAmongLikes(int prints, int print) {
            int places = 1;
            for (int earlier = 0; earlier < print; earlier++) {
                if (contains(prints, earlier)) {
                    boolean before = nowhereDarker(earlier, print);
                    boolean after = nowhereDarker(print, earlier);
                    if (!before && !after) {
                        return 0;
                    }
                    if (before && after) {
                        places++;
                    }
                }
            }
            return places;
        }

        int differenceFrom(int print, int[] tones) {
            int sum = 0;
            for (int line = 0; line < lineCount; line++) {
                sum += Math.abs(printedTone(print, line) - tones[line]);
            }
            return sum;
        }
    }

    /** The plan for target tones; each question makes it anew in the same rows. */
    private static final class Plan {
        /** The fewest and the most minutes that a line allows; it allows all between. */
        final int[] fewest = new int[MAX_LINES];
        final int[] most = new int[MAX_LINES];
        final int[] totals = new int[MAX_LINES];
        int lineCount = 0;
        int totalCount = 0;
        int blockedLines = 0;

        void make(Plate plate, int[] targets) {
            lineCount = plate.lineCount;
            blockedLines = 0;
            for (int line = 0; line < lineCount; line++) {
                int gap = DEPTHS_A_TONE * targets[line] - plate.depths[line];
                fewest[line] = fewestMinutes(gap, plate.strength);
                most[line] = mostMinutes(gap + DEPTHS_A_TONE - 1, plate.strength);
                if (fewest[line] > most[line]) {
                    blockedLines |= 1 << line;
                }
            }
            totalCount = 0;
            if (blockedLines == 0) {
                chooseTotals();
            }
        }

        private static int fewestMinutes(int gap, int strength) {
            if (gap <= 0 || strength < 1) {
                return 0;
            }
            return (gap + strength - 1) / strength;
        }

        private static int mostMinutes(int room, int strength) {
            if (room < 0 || strength < 1) {
                return NONE;
            }
            return Math.min(MAX_MINUTES, room / strength);
        }

        /**
         * In ascending order of their most minutes, a line that is looked at allows
         * at least the latest total; so it allows a chosen one, or 0, exactly if its
         * fewest minutes do not exceed the latest.
         */
        private void chooseTotals() {
            int latest = 0;
            for (int k = 0; k < lineCount; k++) {
                int next = nextTotal(latest);
                if (next == NONE) {
                    return;
                }
                totals[totalCount] = next;
                totalCount++;
                latest = next;
            }
        }

        private int nextTotal(int latest) {
            int next = NONE;
            for (int line = 0; line < lineCount; line++) {
                if (fewest[line] > latest && (next == NONE || most[line] < next)) {
                    next = most[line];
                }
            }
            return next;
        }

        private int totalBefore(int dip) {
            return dip > 0 ? totals[dip - 1] : 0;
        }

        /** For a dip of the plan. */
        int minutesAt(int dip) {
            return totals[dip] - totalBefore(dip);
        }

        /** A line's total is the least that is not below its fewest minutes, so these decide. */
        int finishedBefore(int dip) {
            int reached = totalBefore(dip);
            int finished = 0;
            for (int line = 0; line < lineCount; line++) {
                if (fewest[line] <= reached) {
                    finished |= 1 << line;
                }
            }
            return finished;
        }
    }
}
