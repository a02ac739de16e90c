import java.math.BigInteger;
import java.util.ArrayList;
import java.util.Comparator;
import java.util.List;
import java.util.Map;
import java.util.Random;
import java.util.TreeMap;
import java.util.TreeSet;

/**
 * Runs of drawn calls, the same at every start, whose answers are those of a model that takes the document word by
 * word, with fractions of any size and without any order of its own. It also shows that no call throws.
 */
public final class PlainModelTest {
    private static final int RUNS = 3000;

    /** A fraction in lowest terms, 0 over 1 when it has nothing below. */
    private record Part(BigInteger above, BigInteger below) {
        static final Part ZERO = of(0, 1);
        static final Part ONE = of(1, 1);

        static Part of(long above, long below) {
            return of(BigInteger.valueOf(above), BigInteger.valueOf(below));
        }

        static Part of(BigInteger above, BigInteger below) {
            if (below.signum() == 0) {
                return ZERO;
            }
            BigInteger common = above.gcd(below);
            return new Part(above.divide(common), below.divide(common));
        }

        Part plus(Part o) {
            return of(above.multiply(o.below).add(o.above.multiply(below)), below.multiply(o.below));
        }

        Part times(Part o) {
            return of(above.multiply(o.above), below.multiply(o.below));
        }

        Part less(Part o) {
            return plus(new Part(o.above.negate(), o.below));
        }

        Part over(Part o) {
            return of(above.multiply(o.below), below.multiply(o.above));
        }

        int compare(Part o) {
            return above.multiply(o.below).compareTo(o.above.multiply(below));
        }

        long part(int part) {
            return (part == 0 ? above : below).longValueExact();
        }
    }

    private record Look(int looker, int cell, int hours, long told, int number) { }

    private record Pair(int looker, int cell) { }

    private static final class Model {
        final int cells;
        final TreeSet<Integer> told = new TreeSet<>();
        final Map<Integer, Integer> areas = new TreeMap<>();
        final List<Map<Integer, Integer>> counts = new ArrayList<>();
        final List<Integer> rates = new ArrayList<>();
        final List<TreeSet<Integer>> hours = new ArrayList<>();
        final List<Look> looks = new ArrayList<>();
        Map<Pair, Integer> plan = new java.util.HashMap<>();
        int seenCell = -1;
        Part stop = null;

        Model(int cells) {
            this.cells = Math.max(1, Math.min(65536, cells));
            counts.add(new TreeMap<>());
        }

        boolean isCell(int cell) {
            return cell >= 0 && cell < cells;
        }

        boolean isLooker(int looker) {
            return looker >= 0 && looker < rates.size();
        }

        boolean canTell(int cell) {
            return told.contains(cell) || told.size() < 40;
        }

        Part count(int thing, int cell) {
            return Part.of(counts.get(thing).getOrDefault(cell, 0), 1);
        }

        Part weight(int cell) {
            Part sum = Part.ZERO;
            for (int t = 0; t < counts.size(); t++) {
                sum = sum.plus(count(t, cell));
            }
            return sum;
        }

        Part missed(int cell, Map<Pair, Integer> by) {
            long area = areas.getOrDefault(cell, 60);
            Part product = Part.ONE;
            for (int l = 0; l < rates.size(); l++) {
                long over = (long) by.getOrDefault(new Pair(l, cell), 0) * rates.get(l);
                product = product.times(Part.of(Math.max(0, area - over), area));
            }
            return product;
        }

        Map<Pair, Integer> looked() {
            Map<Pair, Integer> sum = new java.util.HashMap<>();
            for (Look l : looks) {
                sum.merge(new Pair(l.looker, l.cell), l.hours, Integer::sum);
            }
            return sum;
        }

        Part finds(Map<Pair, Integer> by) {
            Part sum = Part.ZERO;
            for (int c : told) {
                sum = sum.plus(weight(c).times(Part.ONE.less(missed(c, by))));
            }
            return sum;
        }

        Part total() {
            Part sum = Part.ZERO;
            for (int c : told) {
                sum = sum.plus(count(0, c));
            }
            return sum;
        }

        Part left() {
            Map<Pair, Integer> looked = looked();
            Part sum = Part.ZERO;
            for (int c : told) {
                sum = sum.plus(count(0, c).times(missed(c, looked)));
            }
            return sum;
        }

        Part odds(int cell) {
            if (seenCell >= 0) {
                return cell == seenCell ? Part.ONE : Part.ZERO;
            }
            return count(0, cell).over(total());
        }

        Part after(int cell) {
            if (seenCell >= 0) {
                return cell == seenCell ? Part.ONE : Part.ZERO;
            }
            return count(0, cell).times(missed(cell, looked())).over(left());
        }

        int given(Map<Pair, Integer> by, int looker) {
            int sum = 0;
            for (Map.Entry<Pair, Integer> e : by.entrySet()) {
                sum += e.getKey().looker == looker ? e.getValue() : 0;
            }
            return sum;
        }

        int hoursOf(Map<Pair, Integer> by) {
            return by.values().stream().mapToInt(Integer::intValue).sum();
        }

        Map<Pair, Integer> with(Map<Pair, Integer> by, Pair one) {
            Map<Pair, Integer> more = new java.util.HashMap<>(by);
            more.merge(one, 1, Integer::sum);
            return more;
        }

        Part gain(Pair pair) {
            Map<Pair, Integer> more = with(plan, pair);
            return weight(pair.cell).times(missed(pair.cell, plan).less(missed(pair.cell, more)));
        }

        void share(int steps) {
            plan = new java.util.HashMap<>();
            for (int s = 0; s < steps; s++) {
                Pair best = null;
                Part most = Part.ZERO;
                for (int l = 0; l < rates.size(); l++) {
                    for (int c : told) {
                        Pair pair = new Pair(l, c);
                        if (given(plan, l) < hours.get(l).size() && gain(pair).compare(most) > 0) {
                            best = pair;
                            most = gain(pair);
                        }
                    }
                }
                if (best == null) {
                    return;
                }
                plan = with(plan, best);
            }
        }

        boolean tried() {
            if (told.size() * rates.size() > 12 || hoursOf(plan) > 5) {
                return false;
            }
            List<Pair> pairs = new ArrayList<>();
            for (int c : told) {
                for (int l = 0; l < rates.size(); l++) {
                    pairs.add(new Pair(l, c));
                }
            }
            return !outdone(pairs, 0, hoursOf(plan), new java.util.HashMap<>(), finds(plan));
        }

        boolean outdone(List<Pair> pairs, int from, int left, Map<Pair, Integer> by, Part due) {
            if (left == 0) {
                return finds(by).compare(due) > 0;
            }
            for (int i = from; i < pairs.size(); i++) {
                Pair pair = pairs.get(i);
                boolean free = given(by, pair.looker) < hours.get(pair.looker).size();
                if (free && outdone(pairs, i, left - 1, with(by, pair), due)) {
                    return true;
                }
            }
            return false;
        }

        List<Integer> order() {
            List<Integer> cellsByOdds = new ArrayList<>(told);
            Map<Integer, Part> odds = new TreeMap<>();
            for (int c : told) {
                odds.put(c, after(c));
            }
            cellsByOdds.sort((a, b) -> odds.get(b).compare(odds.get(a)));
            return cellsByOdds;
        }

        List<Look> log() {
            List<Look> sorted = new ArrayList<>(looks);
            sorted.sort(Comparator.comparingLong(Look::told).thenComparingInt(Look::number));
            return sorted;
        }

        int[] square(int area, int k) {
            int width = 1;
            for (int w = 1; w <= area; w++) {
                width = area % w == 0 && w * w <= area ? w : width;
            }
            int row = k / width;
            return new int[] {row % 2 == 0 ? k - row * width : (row + 1) * width - 1 - k, row};
        }
    }

    private final Random random;
    private final Model m;
    private final SearchGrids x;
    private final int spread;
    private final StringBuilder story = new StringBuilder();
    private int wrong = 0;

    private PlainModelTest(int seed) {
        random = new Random(seed);
        int[] sizes = {1, 2, 3, 5, 12, 50, 200, 65536, 70000, 0, -5};
        int cells = sizes[random.nextInt(sizes.length)];
        m = new Model(cells);
        x = new SearchGrids(cells);
        spread = Math.min(m.cells, 1 + random.nextInt(60));
    }

    private void due(String call, long got, long want) {
        story.append(call).append(" = ").append(got).append('\n');
        if (got != want && wrong++ == 0) {
            System.out.println(story + "due is " + want);
        }
    }

    private int odd(int usual) {
        int[] odds = {-1, -2, 4, 24, 25, 40, 101, 65536, Integer.MAX_VALUE, Integer.MIN_VALUE};
        return random.nextInt(12) == 0 ? odds[random.nextInt(odds.length)] : usual;
    }

    private long odd(long usual) {
        long[] odds = {-1, 0, 101, 1001, 1L << 32, (1L << 32) + 1, Long.MAX_VALUE, Long.MIN_VALUE};
        return random.nextInt(12) == 0 ? odds[random.nextInt(odds.length)] : usual;
    }

    private int cell() {
        return odd(m.told.isEmpty() || random.nextInt(4) == 0 ? random.nextInt(spread)
            : new ArrayList<>(m.told).get(random.nextInt(m.told.size())));
    }

    private int newCell() {
        return odd(random.nextInt(spread));
    }

    private int who() {
        return odd(random.nextInt(Math.max(1, m.rates.size())));
    }

    private int part() {
        return odd(random.nextInt(2));
    }

    private void drop() {
        m.plan = new java.util.HashMap<>();
    }

    private void tell(int kind) {
        switch (kind) {
            case 0 -> tellCounts(newCell(), odd((long) random.nextInt(random.nextBoolean() ? 5 : 1001)));
            case 1 -> tellLooker();
            case 2 -> tellBar(who(), odd(random.nextInt(24)));
            case 3 -> tellRest(who(), odd(random.nextInt(24)), odd(random.nextInt(26)));
            case 4 -> tellThing();
            case 5 -> tellArea(newCell());
            case 6 -> tellStop(odd((long) random.nextInt(8)), odd((long) (1 + random.nextInt(10))));
            default -> tellCounts(cell(), random.nextInt(4));
        }
    }

    private void tellCounts(int cell, long n) {
        int thing = random.nextInt(3) == 0 ? odd(random.nextInt(m.counts.size())) : 0;
        boolean ok = thing >= 0 && thing < m.counts.size() && m.isCell(cell) && m.seenCell < 0
            && n >= 0 && n <= 1000 && m.canTell(cell);
        if (ok) {
            m.told.add(cell);
            m.counts.get(thing).put(cell, (int) n);
            drop();
        }
        boolean got = thing == 0 && random.nextBoolean() ? x.counts(cell, n) : x.countsOf(thing, cell, n);
        due("countsOf(" + thing + ", " + cell + ", " + n + ")", got ? 1 : 0, ok ? 1 : 0);
    }

    private void tellLooker() {
        long width = odd((long) (1 + random.nextInt(40)));
        long speed = odd((long) (1 + random.nextInt(30)));
        int hours = odd(1 + random.nextInt(random.nextBoolean() ? 3 : 24));
        boolean ok = m.rates.size() < 4 && m.looks.isEmpty() && width >= 1 && width <= 1000 && speed >= 1
            && speed <= 1000 && width * speed <= 1000 && hours >= 1 && hours <= 24;
        long want = ok ? m.rates.size() : -1;
        if (ok) {
            m.rates.add((int) (width * speed));
            TreeSet<Integer> use = new TreeSet<>();
            for (int h = 0; h < hours; h++) {
                use.add(h);
            }
            m.hours.add(use);
            drop();
        }
        due("looker(" + width + ", " + speed + ", " + hours + ")", x.looker(width, speed, hours), want);
    }

    private void tellBar(int looker, int hour) {
        boolean ok = m.isLooker(looker) && hour >= 0 && hour < 24;
        if (ok) {
            m.hours.get(looker).remove(hour);
            drop();
        }
        due("bar(" + looker + ", " + hour + ")", x.bar(looker, hour) ? 1 : 0, ok ? 1 : 0);
    }

    private void tellRest(int looker, int from, int to) {
        boolean ok = m.isLooker(looker) && 0 <= from && from < to && to <= 24;
        if (ok) {
            m.hours.get(looker).removeIf(h -> h >= from && h < to);
            drop();
        }
        due("rest(" + looker + ", " + from + ", " + to + ")", x.rest(looker, from, to) ? 1 : 0, ok ? 1 : 0);
    }

    private void tellThing() {
        boolean ok = m.counts.size() < 4;
        long want = ok ? m.counts.size() : -1;
        if (ok) {
            m.counts.add(new TreeMap<>());
            drop();
        }
        due("thing()", x.thing(), want);
    }

    private void tellArea(int cell) {
        int[] areas = {1, 2, 7, 12, 16, 45, 48, 60, 80, 144, 240, 360, 720, 721, 1440};
        long square = odd((long) areas[random.nextInt(areas.length)]);
        boolean ok = m.isCell(cell) && m.looks.isEmpty() && square >= 1 && square <= 720 && 720 % square == 0
            && m.canTell(cell);
        if (ok) {
            m.told.add(cell);
            m.areas.put(cell, (int) square);
            drop();
        }
        due("area(" + cell + ", " + square + ")", x.area(cell, square) ? 1 : 0, ok ? 1 : 0);
    }

    private void tellStop(long above, long below) {
        boolean ok = 0 <= above && above <= below && 1 <= below && below <= 100;
        if (ok) {
            m.stop = Part.of(above, below);
            drop();
        }
        due("stop(" + above + ", " + below + ")", x.stop(above, below) ? 1 : 0, ok ? 1 : 0);
    }

    private void look(int looker, int cell) {
        long hours = odd((long) (1 + random.nextInt(random.nextBoolean() ? 3 : 100)));
        long told = odd((long) random.nextInt(20));
        boolean ok = m.isLooker(looker) && m.told.contains(cell) && m.seenCell < 0 && m.looks.size() < 200
            && hours >= 1 && hours <= 100 && told >= 0;
        long want = ok ? m.looks.size() : -1;
        if (ok) {
            m.looks.add(new Look(looker, cell, (int) hours, told, m.looks.size()));
        }
        due("look(" + looker + ", " + cell + ", " + hours + ", " + told + ")", x.look(looker, cell, hours, told), want);
    }

    private void see(int cell, int by) {
        boolean ok = m.told.contains(cell) && m.isLooker(by) && m.seenCell < 0
            && m.looked().containsKey(new Pair(by, cell)) && m.count(0, cell).above().signum() > 0;
        if (ok) {
            m.seenCell = cell;
            drop();
        }
        due("seen(" + cell + ", " + by + ")", x.seen(cell, by) ? 1 : 0, ok ? 1 : 0);
    }

    private void share() {
        int steps = odd(random.nextInt(random.nextInt(6) == 0 ? 101 : 7));
        boolean ok = steps >= 0 && steps <= 100;
        if (ok) {
            m.share(steps);
        }
        due("share(" + steps + ")", x.share(steps), ok ? m.hoursOf(m.plan) : -1);
    }

    private void ask(int kind) {
        switch (kind) {
            case 0 -> askOdds(cell(), part());
            case 1 -> askAfter(cell(), part());
            case 2 -> askOf(who(), cell());
            case 3 -> due("tried()", x.tried() ? 1 : 0, m.tried() ? 1 : 0);
            case 4 -> due("sums()", x.sums() ? 1 : 0, sums() ? 1 : 0);
            case 5 -> askFound(part());
            case 6 -> askLine(cell(), part());
            case 7 -> askCovers(cell());
            case 8 -> due("stops()", x.stops(), stops());
            case 9 -> askOrder(odd(random.nextInt(m.told.size() + 1)));
            default -> askLog(odd(random.nextInt(m.looks.size() + 1)), odd(random.nextInt(4)));
        }
    }

    private void askOdds(int cell, int part) {
        boolean ok = m.isCell(cell) && (part == 0 || part == 1);
        due("odds(" + cell + ", " + part + ")", x.odds(cell, part), ok ? m.odds(cell).part(part) : -1);
    }

    private void askAfter(int cell, int part) {
        boolean ok = m.isCell(cell) && (part == 0 || part == 1);
        due("after(" + cell + ", " + part + ")", x.after(cell, part), ok ? m.after(cell).part(part) : -1);
    }

    private void askOf(int looker, int cell) {
        boolean ok = m.isLooker(looker) && m.isCell(cell);
        due("of(" + looker + ", " + cell + ")", x.of(looker, cell), ok ? m.plan.getOrDefault(new Pair(looker, cell), 0) : -1);
    }

    private boolean sums() {
        Part sum = Part.ZERO;
        for (int c : m.told) {
            sum = sum.plus(m.after(c));
        }
        return sum.equals(Part.ONE);
    }

    private void askFound(int part) {
        Part weights = Part.ZERO;
        for (int c : m.told) {
            weights = weights.plus(m.weight(c));
        }
        boolean ok = part == 0 || part == 1;
        due("found(" + part + ")", x.found(part), ok ? m.finds(m.plan).over(weights).part(part) : -1);
    }

    private void askLine(int cell, int axis) {
        int area = m.areas.getOrDefault(cell, 60);
        int k = odd(random.nextInt(area + 1));
        boolean ok = m.told.contains(cell) && k >= 0 && k < area && (axis == 0 || axis == 1);
        due("line(" + cell + ", " + k + ", " + axis + ")", x.line(cell, k, axis), ok ? m.square(area, k)[axis] : -1);
    }

    private void askCovers(int cell) {
        due("covers(" + cell + ")", x.covers(cell) ? 1 : 0, m.told.contains(cell) ? 1 : 0);
    }

    private long stops() {
        if (m.stop == null || m.total().above().signum() == 0) {
            return -1;
        }
        return m.seenCell >= 0 || Part.ONE.less(m.left().over(m.total())).compare(m.stop) >= 0 ? 1 : 0;
    }

    private void askOrder(int k) {
        due("order(" + k + ")", x.order(k), k >= 0 && k < m.told.size() ? m.order().get(k) : -1);
    }

    private void askLog(int k, int what) {
        long want = -1;
        if (k >= 0 && k < m.looks.size() && what >= 0 && what < 4) {
            Look l = m.log().get(k);
            want = new int[] {l.looker(), l.cell(), l.hours(), l.number()}[what];
        }
        due("log(" + k + ", " + what + ")", x.log(k, what), want);
    }

    /** Much is told at first, and then, from some call on, looks and questions come more often. */
    private boolean run() {
        int calls = 20 + random.nextInt(random.nextInt(10) == 0 ? 492 : 80);
        int firstLook = random.nextInt(60);
        boolean maySee = random.nextInt(3) == 0;
        for (int c = 0; c < calls && wrong == 0; c++) {
            int draw = random.nextInt(100);
            if (draw < (c < firstLook ? 50 : 8)) {
                tell(random.nextInt(8));
            } else if (draw < 60) {
                ask(random.nextInt(11));
            } else if (draw < 72) {
                share();
            } else if (c >= firstLook && draw < 97) {
                look(who(), cell());
            } else if (maySee && c > firstLook) {
                see(cell(), who());
            } else {
                ask(random.nextInt(11));
            }
        }
        return wrong == 0;
    }

    public static void main(String[] args) {
        for (int seed = 0; seed < RUNS; seed++) {
            if (!new PlainModelTest(seed).run()) {
                System.out.println("run " + seed + " is not as the model has it");
                System.exit(1);
            }
        }
        System.out.println("all " + RUNS + " runs are as the model has them");
    }
}
