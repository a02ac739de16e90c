/**
 * A search at sea: where things may be, how lookers share out their hours, and what looks that saw
 * nothing leave of the odds.
 *
 * <p>Every area divides 720, so what one looker missed in a cell is a whole number of 720ths, and
 * what four of them missed a whole number of WHOLE-ths. All sums are kept in that one unit: the
 * greatest, 40 cells of weight 4000, is below 5 * 10^16, and 100 times the counts of one thing below
 * 2 * 10^18, so a long holds them exactly.
 */
public final class SearchGrids {
    public static final int NONE = -1;

    private static final int MOST_CELLS = 65536;
    private static final int MOST_TOLD = 40;
    private static final int MOST_LOOKERS = 4;
    private static final int MOST_THINGS = 4;
    private static final int MOST_LOOKS = 200;
    private static final int MOST_COUNT = 1000;
    private static final int MOST_SQUARES_AN_HOUR = 1000;
    private static final int MOST_HOURS_OF_A_LOOK = 100;
    private static final int MOST_STEPS = 100;
    private static final int MOST_BELOW = 100;
    private static final int HOURS_OF_A_DAY = 24;
    private static final int FIRST_SQUARES = 60;
    private static final int MOST_SQUARES = 720;
    private static final int MOST_TRIED_PLACES = 12;
    private static final int MOST_TRIED_HOURS = 5;
    private static final long WHOLE = 720L * 720L * 720L * 720L;

    private final int cells;
    /** The told cells stand first, by number; behind them spare ones, so that none is ever null. */
    private final Cell[] toldCells;
    private int toldCount;
    private final Looker[] lookers;
    private int lookerCount;
    /** Squares an hour of each looker, 0 of those that are not there. */
    private final int[] rates;
    private int thingCount;
    private final LookLog looks;
    private int seenCell;
    private long stopAbove;
    /** 0 as long as nothing was told of when to stop. */
    private long stopBelow;
    private final boolean[] gone;

    public SearchGrids(int cells) {
        this.cells = cells < 1 ? 1 : cells > MOST_CELLS ? MOST_CELLS : cells;
        rates = new int[MOST_LOOKERS];
        toldCells = new Cell[MOST_TOLD];
        for (int i = 0; i < MOST_TOLD; i++) {
            toldCells[i] = new Cell();
        }
        lookers = new Looker[MOST_LOOKERS];
        for (int i = 0; i < MOST_LOOKERS; i++) {
            lookers[i] = new Looker();
        }
        thingCount = 1;
        looks = new LookLog();
        seenCell = NONE;
        gone = new boolean[MOST_SQUARES];
    }

    public boolean counts(int cell, long n) {
        return countsOf(0, cell, n);
    }

    public long odds(int cell2, int part) {
        if (!isCell(cell2) || !isZeroOrOne(part)) {
            return NONE;
        }
        if (seenCell != NONE) {
            return fraction(cell2 == seenCell ? 1 : 0, 1, part);
        }
        int at = placeOf(cell2);
        return fraction(at == NONE ? 0 : toldCells[at].countOf[0], allCounts(), part);
    }

    public int looker(long width, long speed, int hours) {
        if (lookerCount >= MOST_LOOKERS || looks.size > 0) {
            return NONE;
        }
        if (!isWithin(width, 1, MOST_SQUARES_AN_HOUR) || !isWithin(speed, 1, MOST_SQUARES_AN_HOUR)) {
            return NONE;
        }
        if (width * speed > MOST_SQUARES_AN_HOUR || !isWithin(hours, 1, HOURS_OF_A_DAY)) {
            return NONE;
        }
        int number = lookerCount;
        rates[number] = (int) (width * speed);
        lookers[number].begin(hours);
        lookerCount++;
        dropPlan();
        return number;
    }

    public boolean bar(int looker, int hour) {
        if (!isLooker(looker) || !isWithin(hour, 0, HOURS_OF_A_DAY - 1)) {
            return false;
        }
        lookers[looker].takeAway(hour, hour + 1);
        dropPlan();
        return true;
    }

    public int share(int steps) {
        if (!isWithin(steps, 0, MOST_STEPS)) {
            return NONE;
        }
        dropPlan();
        for (int i = 0; i < toldCount; i++) {
            toldCells[i].reckonGains(rates);
        }
        int given = 0;
        while (given < steps && giveBestHour()) {
            given++;
        }
        return given;
    }

    public int of(int looker2, int cell3) {
        if (!isLooker(looker2) || !isCell(cell3)) {
            return NONE;
        }
        int at = placeOf(cell3);
        return at == NONE ? 0 : toldCells[at].planned[looker2];
    }

    public boolean tried() {
        int hours = plannedHours();
        if (toldCount * lookerCount > MOST_TRIED_PLACES || hours > MOST_TRIED_HOURS) {
            return false;
        }
        return hours == 0 || !isOutdone(0, 0, hours, 0L, plannedFinds());
    }

    public int look(int looker3, int cell4, long hours2, long told) {
        int at = placeOf(cell4);
        if (!isLooker(looker3) || at == NONE || seenCell != NONE || looks.size >= MOST_LOOKS) {
            return NONE;
        }
        if (!isWithin(hours2, 1, MOST_HOURS_OF_A_LOOK) || told < 0) {
            return NONE;
        }
        int hours = (int) hours2;
        toldCells[at].looked[looker3] += hours;
        return looks.add(looker3, cell4, hours, told);
    }

    public long after(int cell5, int part) {
        if (!isCell(cell5) || !isZeroOrOne(part)) {
            return NONE;
        }
        if (seenCell != NONE) {
            return fraction(cell5 == seenCell ? 1 : 0, 1, part);
        }
        int at = placeOf(cell5);
        return fraction(at == NONE ? 0 : toldCells[at].remains(rates), allRemains(), part);
    }

    public boolean sums() {
        return seenCell != NONE || allRemains() > 0;
    }

    public long found(int part) {
        if (!isZeroOrOne(part)) {
            return NONE;
        }
        long weights = 0;
        for (int i = 0; i < toldCount; i++) {
            weights += toldCells[i].weight();
        }
        return fraction(plannedFinds(), weights * WHOLE, part);
    }

    public int line(int cell6, int k, int axis) {
        int at = placeOf(cell6);
        if (at == NONE || !isWithin(k, 0, toldCells[at].squares - 1) || !isZeroOrOne(axis)) {
            return NONE;
        }
        int width = rowWidth(toldCells[at].squares);
        return axis == 0 ? placeInRow(k, width) : rowOf(k, width);
    }

    public boolean covers(int cell7) {
        int at = placeOf(cell7);
        if (at == NONE) {
            return false;
        }
        int squares = toldCells[at].squares;
        int width = rowWidth(squares);
        for (int i = 0; i < MOST_SQUARES; i++) {
            gone[i] = false;
        }
        for (int k = 0; k < squares; k++) {
            int square = rowOf(k, width) * width + placeInRow(k, width);
            if (!isWithin(square, 0, squares - 1) || gone[square]) {
                return false;
            }
            gone[square] = true;
        }
        return true;
    }

    public boolean rest(int person, int from, int to) {
        if (!isLooker(person) || from < 0 || from >= to || to > HOURS_OF_A_DAY) {
            return false;
        }
        lookers[person].takeAway(from, to);
        dropPlan();
        return true;
    }

    public int thing() {
        if (thingCount >= MOST_THINGS) {
            return NONE;
        }
        int number = thingCount;
        thingCount++;
        dropPlan();
        return number;
    }

    public boolean countsOf(int thing, int cell8, long n2) {
        if (!isWithin(thing, 0, thingCount - 1) || !isCell(cell8) || seenCell != NONE) {
            return false;
        }
        if (!isWithin(n2, 0, MOST_COUNT)) {
            return false;
        }
        int at = tellOf(cell8);
        if (at == NONE) {
            return false;
        }
        toldCells[at].countOf[thing] = (int) n2;
        dropPlan();
        return true;
    }

    public boolean stop(long above, long below) {
        if (!isWithin(below, 1, MOST_BELOW) || !isWithin(above, 0, below)) {
            return false;
        }
        stopAbove = above;
        stopBelow = below;
        dropPlan();
        return true;
    }

    public int stops() {
        long counted = allCounts() * WHOLE;
        if (stopBelow == 0 || counted == 0) {
            return NONE;
        }
        if (seenCell != NONE) {
            return 1;
        }
        return (counted - allRemains()) * stopBelow >= stopAbove * counted ? 1 : 0;
    }

    public int order(int k) {
        if (!isWithin(k, 0, toldCount - 1)) {
            return NONE;
        }
        for (int i = 0; i < toldCount; i++) {
            toldCells[i].standing = standingOf(toldCells[i]);
        }
        for (int i = 0; i < toldCount; i++) {
            if (countBefore(i) == k) {
                return toldCells[i].number;
            }
        }
        return NONE;
    }

    public boolean seen(int cell9, int by) {
        int at = placeOf(cell9);
        if (at == NONE || !isLooker(by) || seenCell != NONE) {
            return false;
        }
        if (toldCells[at].looked[by] == 0 || toldCells[at].countOf[0] == 0) {
            return false;
        }
        seenCell = cell9;
        dropPlan();
        return true;
    }

    public int log(int k2, int what) {
        if (!isWithin(k2, 0, looks.size - 1)) {
            return NONE;
        }
        int number = looks.byTold[k2];
        switch (what) {
            case 0:
                return looks.lookers[number];
            case 1:
                return looks.cells[number];
            case 2:
                return looks.hours[number];
            case 3:
                return number;
            default:
                return NONE;
        }
    }

    public boolean area(int cell10, long square) {
        if (!isCell(cell10) || looks.size > 0 || !isWithin(square, 1, MOST_SQUARES)) {
            return false;
        }
        int squares = (int) square;
        if (MOST_SQUARES % squares != 0) {
            return false;
        }
        int at = tellOf(cell10);
        if (at == NONE) {
            return false;
        }
        toldCells[at].squares = squares;
        toldCells[at].scale = MOST_SQUARES / squares;
        dropPlan();
        return true;
    }

    private boolean isCell(int cell) {
        return cell >= 0 && cell < cells;
    }

    private boolean isLooker(int number) {
        return number >= 0 && number < lookerCount;
    }

    private static boolean isZeroOrOne(int n) {
        return n == 0 || n == 1;
    }

    private static boolean isWithin(long n, long least, long most) {
        return n >= least && n <= most;
    }

    /** Where a cell stands among the told ones, or NONE. */
    private int placeOf(int cell) {
        for (int i = 0; i < toldCount; i++) {
            if (toldCells[i].number == cell) {
                return i;
            }
        }
        return NONE;
    }

    /** The same, but a cell that is not told yet becomes so if there is room for it. */
    private int tellOf(int cell) {
        int at = placeOf(cell);
        if (at != NONE || toldCount >= MOST_TOLD) {
            return at;
        }
        Cell fresh = toldCells[toldCount];
        fresh.number = cell;
        at = toldCount;
        while (at > 0 && toldCells[at - 1].number > cell) {
            toldCells[at] = toldCells[at - 1];
            at--;
        }
        toldCells[at] = fresh;
        toldCount++;
        return at;
    }

    private long allCounts() {
        long sum = 0;
        for (int i = 0; i < toldCount; i++) {
            sum += toldCells[i].countOf[0];
        }
        return sum;
    }

    private long allRemains() {
        long sum = 0;
        for (int i = 0; i < toldCount; i++) {
            sum += toldCells[i].remains(rates);
        }
        return sum;
    }

    private void dropPlan() {
        for (int i = 0; i < toldCount; i++) {
            for (int j = 0; j < MOST_LOOKERS; j++) {
                toldCells[i].planned[j] = 0;
            }
        }
        for (int j = 0; j < MOST_LOOKERS; j++) {
            lookers[j].given = 0;
        }
    }

    /**
     * Gives one hour more where the gain is greatest; false when none is above 0. Lookers and told
     * cells are gone through from the least up, so the first of the same gain is the one that is due.
     */
    private boolean giveBestHour() {
        long most = 0;
        int bestLooker = NONE;
        int bestAt = NONE;
        for (int j = 0; j < lookerCount; j++) {
            boolean free = lookers[j].given < lookers[j].use;
            for (int i = 0; free && i < toldCount; i++) {
                if (toldCells[i].gains[j] > most) {
                    most = toldCells[i].gains[j];
                    bestLooker = j;
                    bestAt = i;
                }
            }
        }
        if (bestLooker == NONE || bestAt == NONE) {
            return false;
        }
        toldCells[bestAt].planned[bestLooker]++;
        lookers[bestLooker].given++;
        // One hour more changes the gains of its own cell alone.
        toldCells[bestAt].reckonGains(rates);
        return true;
    }

    private int plannedHours() {
        int sum = 0;
        for (int j = 0; j < lookerCount; j++) {
            sum += lookers[j].given;
        }
        return sum;
    }

    private long plannedFinds() {
        long sum = 0;
        for (int i = 0; i < toldCount; i++) {
            sum += toldCells[i].finds(toldCells[i].planned, rates);
        }
        return sum;
    }

    /**
     * Whether some way to give the hours that are left, from this told cell and looker on, brings the
     * sum above what is due. The trial hours of all that comes later are 0, before and behind the call.
     * It goes one level deeper for each place of a looker in a told cell and for each cell: some 25 at most.
     */
    private boolean isOutdone(int at, int looker, int left, long sum, long due) {
        if (at >= toldCount) {
            return false;
        }
        Cell cell = toldCells[at];
        if (left == 0) {
            return sum + cell.finds(cell.trial, rates) > due;
        }
        if (looker >= lookerCount) {
            return isOutdone(at + 1, 0, left, sum + cell.finds(cell.trial, rates), due);
        }
        Looker giver = lookers[looker];
        int most = Math.min(left, giver.use - giver.trial);
        boolean outdone = false;
        for (int hours = 0; hours <= most && !outdone; hours++) {
            cell.trial[looker] = hours;
            giver.trial += hours;
            outdone = isOutdone(at, looker + 1, left - hours, sum, due);
            giver.trial -= hours;
        }
        cell.trial[looker] = 0;
        return outdone;
    }

    /** What the told cells are ordered by: the odds after the looks without their common divisor. */
    private long standingOf(Cell cell) {
        if (seenCell != NONE) {
            return cell.number == seenCell ? 1 : 0;
        }
        return cell.remains(rates);
    }

    private int countBefore(int at) {
        int before = 0;
        for (int i = 0; i < toldCount; i++) {
            boolean greater = toldCells[i].standing > toldCells[at].standing;
            boolean sameAndLesserCell = toldCells[i].standing == toldCells[at].standing && i < at;
            if (greater || sameAndLesserCell) {
                before++;
            }
        }
        return before;
    }

    /** The greatest divisor of the squares whose square is not above them; never below 1. */
    private static int rowWidth(int squares) {
        int width = 1;
        for (int w = 2; w * w <= squares; w++) {
            if (squares % w == 0) {
                width = w;
            }
        }
        return width;
    }

    private static int rowOf(int k, int width) {
        return width < 1 ? 0 : k / width;
    }

    private static int placeInRow(int k, int width) {
        if (width < 1) {
            return 0;
        }
        int along = k % width;
        return rowOf(k, width) % 2 == 0 ? along : width - 1 - along;
    }

    /** A part of above / below in lowest terms; 0 over 1 when there is nothing below. */
    private static long fraction(long above, long below, int part) {
        if (above <= 0 || below <= 0) {
            return part == 0 ? 0 : 1;
        }
        long common = commonDivisor(above, below);
        return (part == 0 ? above : below) / common;
    }

    /** The greatest common divisor of two numbers above 0. */
    private static long commonDivisor(long a, long b) {
        long greater = a;
        long lesser = b;
        // Euclid's way takes at most 91 steps for longs.
        for (int step = 0; step < 100 && lesser != 0; step++) {
            long over = greater % lesser;
            greater = lesser;
            lesser = over;
        }
        return greater < 1 ? 1 : greater;
    }

    private static final class Cell {
        private final int[] countOf = new int[MOST_THINGS];
        /** Hours of each looker: by the plan, by looks, and by the plan that is being tried. */
        private final int[] planned = new int[MOST_LOOKERS];
        private final int[] looked = new int[MOST_LOOKERS];
        private final int[] trial = new int[MOST_LOOKERS];
        private final long[] gains = new long[MOST_LOOKERS];
        private int number = NONE;
        private int squares = FIRST_SQUARES;
        /** How many 720ths one square is. */
        private int scale = MOST_SQUARES / FIRST_SQUARES;
        private long standing;

        private long weight() {
            long sum = 0;
            for (int t = 0; t < MOST_THINGS; t++) {
                sum += countOf[t];
            }
            return sum;
        }

        /** What a looker of so many squares an hour misses in so many hours, in 720ths. */
        private long missedBy(int rate, int hours) {
            int lookedOver = Math.min(squares, hours * rate);
            return (long) (squares - lookedOver) * scale;
        }

        /** What all lookers miss in their hours, in WHOLE-ths; those that are not there miss all. */
        private long missed(int[] hours, int[] rates) {
            long product = 1;
            for (int j = 0; j < MOST_LOOKERS; j++) {
                product *= missedBy(rates[j], hours[j]);
            }
            return product;
        }

        private long finds(int[] hours, int[] rates) {
            return weight() * (WHOLE - missed(hours, rates));
        }

        /** Thing 0's count times what was missed by the looks. */
        private long remains(int[] rates) {
            return countOf[0] * missed(looked, rates);
        }

        private void reckonGains(int[] rates) {
            long now = finds(planned, rates);
            for (int j = 0; j < MOST_LOOKERS; j++) {
                planned[j]++;
                gains[j] = finds(planned, rates) - now;
                planned[j]--;
            }
        }
    }

    private static final class Looker {
        private final boolean[] useless = new boolean[HOURS_OF_A_DAY];
        private int hours;
        /** How many of the hours are of use, are given by the plan, and by the plan that is tried. */
        private int use;
        private int given;
        private int trial;

        private void begin(int hours) {
            this.hours = hours;
            use = hours;
        }

        /** Barred hours and rests take away alike, and an hour that is taken twice counts once. */
        private void takeAway(int from, int to) {
            for (int h = Math.max(from, 0); h < to && h < HOURS_OF_A_DAY; h++) {
                if (!useless[h] && h < hours) {
                    use--;
                }
                useless[h] = true;
            }
        }
    }

    private static final class LookLog {
        private final int[] lookers = new int[MOST_LOOKS];
        private final int[] cells = new int[MOST_LOOKS];
        private final int[] hours = new int[MOST_LOOKS];
        private final long[] tolds = new long[MOST_LOOKS];
        /** The numbers of the looks by what was told, of the same the lesser number first. */
        private final int[] byTold = new int[MOST_LOOKS];
        private int size;

        private int add(int looker, int cell, int hours, long told) {
            if (size >= MOST_LOOKS) {
                return NONE;
            }
            int number = size;
            lookers[number] = looker;
            cells[number] = cell;
            this.hours[number] = hours;
            tolds[number] = told;
            int at = number;
            while (at > 0 && tolds[byTold[at - 1]] > told) {
                byTold[at] = byTold[at - 1];
                at--;
            }
            byTold[at] = number;
            size++;
            return number;
        }
    }
}
