import java.util.ArrayList;
import java.util.List;
import java.util.Set;
import java.util.regex.Matcher;
import java.util.regex.Pattern;

/**
 * Each sentence of the document that names a boundary case, with runs of calls at that boundary and just beyond it.
 *
 * <p>A run is written as calls parted by ';' or by lines: "new 5" makes an object, "share 3 = 2" is a call and the
 * answer that is due (a boolean counts 1 or 0), "! share 101" a call that is refused and changes nothing: two
 * objects of the same calls so far, of which one alone has had that call too, have to answer alike from there on.
 * "0..3: looker 1 1 1 = #" stands for one such call for each number, put in place of #. "calls = 9" is no call, but
 * tells how many there were.
 */
public final class BoundariesTest {
    private static final int MOST_CALLS = 512;
    private static final Set<String> YES_OR_NO = Set.of("counts", "bar", "tried", "sums", "covers", "rest", "countsOf",
        "stop", "seen", "area");
    private static final Pattern MANY = Pattern.compile("(-?\\d+)\\.\\.(-?\\d+): (.*)");

    /** The divisors of 720, each with the greatest of its divisors whose square is not above it. */
    private static final int[][] WIDTHS = {{1, 1}, {2, 1}, {3, 1}, {4, 2}, {5, 1}, {6, 2}, {8, 2}, {9, 3}, {10, 2},
        {12, 3}, {15, 3}, {16, 4}, {18, 3}, {20, 4}, {24, 4}, {30, 5}, {36, 6}, {40, 5}, {45, 5}, {48, 6}, {60, 6},
        {72, 8}, {80, 8}, {90, 9}, {120, 10}, {144, 12}, {180, 12}, {240, 15}, {360, 18}, {720, 24}};

    private static int wrong = 0;
    private static int sentences = 0;

    /** An object that is asked by written calls, and says when it is asked more often than the document allows. */
    private static final class Asked {
        private final SearchGrids x;
        private int calls = 0;

        Asked(int cells) {
            x = new SearchGrids(cells);
        }

        long ask(String call) {
            if (call.equals("calls")) {
                return calls;
            }
            if (++calls > MOST_CALLS) {
                throw new IllegalStateException("a run has more than " + MOST_CALLS + " calls");
            }
            String[] words = call.split(" ");
            long[] n = new long[4];
            for (int i = 1; i < words.length; i++) {
                n[i - 1] = Long.parseLong(words[i]);
            }
            return YES_OR_NO.contains(words[0]) ? (yes(words[0], n) ? 1 : 0) : number(words[0], n);
        }

        private static int whole(long n) {
            return Math.toIntExact(n);
        }

        private boolean yes(String name, long[] n) {
            return switch (name) {
                case "counts" -> x.counts(whole(n[0]), n[1]);
                case "bar" -> x.bar(whole(n[0]), whole(n[1]));
                case "tried" -> x.tried();
                case "sums" -> x.sums();
                case "covers" -> x.covers(whole(n[0]));
                case "rest" -> x.rest(whole(n[0]), whole(n[1]), whole(n[2]));
                case "countsOf" -> x.countsOf(whole(n[0]), whole(n[1]), n[2]);
                case "stop" -> x.stop(n[0], n[1]);
                case "seen" -> x.seen(whole(n[0]), whole(n[1]));
                default -> x.area(whole(n[0]), n[1]);
            };
        }

        private long number(String name, long[] n) {
            return switch (name) {
                case "odds" -> x.odds(whole(n[0]), whole(n[1]));
                case "looker" -> x.looker(n[0], n[1], whole(n[2]));
                case "share" -> x.share(whole(n[0]));
                case "of" -> x.of(whole(n[0]), whole(n[1]));
                case "look" -> x.look(whole(n[0]), whole(n[1]), n[2], n[3]);
                case "after" -> x.after(whole(n[0]), whole(n[1]));
                case "found" -> x.found(whole(n[0]));
                case "line" -> x.line(whole(n[0]), whole(n[1]), whole(n[2]));
                case "thing" -> x.thing();
                case "stops" -> x.stops();
                case "order" -> x.order(whole(n[0]));
                case "log" -> x.log(whole(n[0]), whole(n[1]));
                default -> throw new IllegalArgumentException(name);
            };
        }
    }

    private static List<String> callsOf(String run) {
        List<String> calls = new ArrayList<>();
        for (String piece : run.split("[;\n]")) {
            Matcher many = MANY.matcher(piece.strip());
            if (many.matches()) {
                for (int i = Integer.parseInt(many.group(1)); i <= Integer.parseInt(many.group(2)); i++) {
                    calls.add(withNumber(many.group(3), i));
                }
            } else if (!piece.isBlank()) {
                calls.add(piece.strip());
            }
        }
        return calls;
    }

    /** The call with a number in place of #, and with the sum of both in place of, say, #+40. */
    private static String withNumber(String call, int number) {
        String sums = Pattern.compile("#\\+(\\d+)").matcher(call)
            .replaceAll(more -> Integer.toString(number + Integer.parseInt(more.group(1))));
        return sums.replace("#", Integer.toString(number));
    }

    private static void say(String sentence, List<String> before, String what) {
        wrong++;
        System.out.println("\"" + sentence + "\"\n  " + String.join("; ", before) + "\n  " + what);
    }

    /** A sentence of the document, and a run that answers otherwise if it were broken. */
    private static void holds(String sentence, String run) {
        sentences++;
        List<String> before = new ArrayList<>();
        Asked x = null;
        for (String call : callsOf(run)) {
            if (call.startsWith("new ")) {
                before.clear();
                before.add(call);
                x = new Asked(Integer.parseInt(call.substring(4)));
            } else if (call.startsWith("! ")) {
                refused(sentence, before, x, call.substring(2));
            } else {
                before.add(call);
                String[] sides = call.split(" = ");
                long got = x.ask(sides[0]);
                if (got != Long.parseLong(sides[1])) {
                    say(sentence, before, "the last call answered " + got);
                }
            }
        }
    }

    private static void refused(String sentence, List<String> before, Asked x, String call) {
        long got = x.ask(call);
        if (got != (YES_OR_NO.contains(call.split(" ")[0]) ? 0 : SearchGrids.NONE)) {
            say(sentence, before, call + " is not refused, but answered " + got);
        }
        Asked asBefore = again(before);
        Asked tried = again(before);
        tried.ask(call);
        if (!portrait(asBefore).equals(portrait(tried))) {
            say(sentence, before, call + " is refused, but changes something");
        }
    }

    private static Asked again(List<String> before) {
        Asked x = new Asked(Integer.parseInt(before.get(0).substring(4)));
        for (String call : before.subList(1, before.size())) {
            x.ask(call.split(" = ")[0]);
        }
        return x;
    }

    /** What an object answers from here on: first to questions, then to calls that bring hidden state to light. */
    private static String portrait(Asked x) {
        String questions = """
            0..3: of # 0; 0..3: of # 1; 0..3: of # 2; 0..3: of # 3; found 0; found 1; tried; sums; stops
            0..4: odds # 0; 0..4: odds # 1; 0..4: after # 0; 0..4: after # 1
            0..40: order #; 0..4: covers #; 0..4: line # 1 0; 0..1: line # 59 1; 0..1: line # 719 1
            0..4: log # 0; 0..4: log # 1; 0..4: log # 2; 0..4: log # 3; log 199 3
            """;
        String probes = """
            share 100; 0..3: of # 0; 0..3: of # 1; found 0; found 1; tried
            looker 1 1 1; thing; counts 0 7; stops; countsOf 1 1 3; share 100; found 0; found 1
            area 0 720; area 41 1; 0..3: look # 0 1 0; after 0 0; after 0 1; stops; seen 0 0; after 0 0; stops
            """;
        StringBuilder answers = new StringBuilder();
        for (String call : callsOf(questions + probes)) {
            answers.append(x.ask(call)).append(' ');
        }
        return answers.toString();
    }

    private static void terms() {
        holds("An object is used for at most 512 calls after it has been made", """
            new 65536; 1..3: thing = #; 0..39: area # 720 = 1; 0..39: countsOf 0 # 1000 = 1
            0..39: countsOf 1 # 1000 = 1
            0..39: countsOf 2 # 1000 = 1; 0..39: countsOf 3 # 1000 = 1; 0..3: looker 719 1 24 = #; stop 100 100 = 1
            0..39: look 0 # 1 9 = #; 0..39: look 1 # 1 8 = #+40; 0..39: look 2 # 1 7 = #+80
            0..39: look 3 # 1 6 = #+120
            after 0 0 = 1; after 39 1 = 40; stops = 0; sums = 1
            0..39: look 3 # 1 5 = #+160; after 0 0 = 0; after 39 1 = 1; stops = 1; sums = 0; log 0 3 = 160
            log 199 3 = 39; share 100 = 96
            0..39: order # = #; 0..39: line # 719 1 = 29; tried = 0; log 200 3 = -1; of 0 0 = 1; of 1 0 = 0
            of 2 0 = 1; of 3 0 = 1
            found 0 = 1866238559; found 1 = 1866240000; order 40 = -1; seen 39 3 = 1; after 39 0 = 1; stops = 1
            found 0 = 0; calls = 512
            """);
        holds("CELLS are TOLD when something was told of them", """
            new 3; counts 1 0 = 1; covers 1 = 1; covers 0 = 0; order 0 = 1; order 1 = -1
            new 3; area 1 60 = 1; covers 1 = 1; order 0 = 1
            new 3; thing = 1; countsOf 1 2 0 = 1; covers 2 = 1; order 0 = 2
            new 3; looker 1 1 1 = 0; share 1 = 0; odds 1 0 = 0; after 1 0 = 0; of 0 1 = 0; bar 0 0 = 1; stop 0 1 = 1
            covers 1 = 0; order 0 = -1; ! look 0 1 1 0; ! seen 1 0; ! line 1 0 0; ! counts 1 1001; ! area 1 7
            order 0 = -1
            """);
        holds("at most 40", """
            new 50; 0..38: counts # 0 = 1; order 38 = 38; order 39 = -1; area 49 60 = 1; order 39 = 49
            ! counts 39 0; ! counts 48 1; ! area 39 60; ! countsOf 0 39 1; order 39 = 49; order 40 = -1
            counts 49 5 = 1; area 0 1 = 1; odds 49 0 = 1; counts 0 5 = 1; odds 49 1 = 2
            new 50; 5..44: area # 1 = 1; ! counts 0 1; ! counts 4 1; ! counts 45 1; ! area 45 1; counts 44 1 = 1
            """);
        holds("A cell has an AREA in squares (60 at first)", """
            new 2; counts 0 1 = 1; line 0 59 1 = 9; line 0 60 1 = -1; looker 59 1 24 = 0; share 1 = 1; found 0 = 59
            found 1 = 60
            share 100 = 2; found 0 = 1; found 1 = 1
            new 2; counts 0 1 = 1; looker 61 1 24 = 0; share 100 = 1; found 0 = 1; found 1 = 1
            """);
        holds("THINGS are sought, thing 0 from the beginning", """
            new 1; countsOf 0 0 1 = 1; ! countsOf 1 0 1; ! countsOf -1 0 1; thing = 1; countsOf 1 0 1 = 1
            ! countsOf 2 0 1
            """);
        holds("each has COUNTS in cells (0 at first)", """
            new 2; thing = 1; area 0 60 = 1; odds 0 0 = 0; odds 0 1 = 1; looker 60 1 1 = 0; share 1 = 0; found 0 = 0
            countsOf 1 1 1 = 1; odds 1 0 = 0; share 1 = 1; of 0 1 = 1; found 0 = 1; found 1 = 1
            """);
        holds("THE WEIGHT of a cell is the sum of the counts of all things there", """
            new 2; 1..3: thing = #; 0..3: countsOf # 0 1000 = 1; countsOf 3 1 1 = 1; looker 60 1 1 = 0; share 1 = 1
            of 0 0 = 1
            found 0 = 4000; found 1 = 4001; counts 0 0 = 1; share 1 = 1; found 0 = 3000; found 1 = 3001
            """);
        lookersOfTheTerms();
        planOfTheTerms();
        looksOfTheTerms();
        fractionsOfTheTerms();
    }

    private static void lookersOfTheTerms() {
        holds("LOOKERS 0, 1, .. (at most 4)", """
            new 1; counts 0 1 = 1; ! bar 0 0; 0..3: looker 1 1 1 = #; share 100 = 4; ! looker 1 1 1; ! bar 4 0
            bar 3 0 = 1
            """);
        holds("so many hours, 0, 1, .. of a day, of which those that are barred, or lie in their rests, are no USE", """
            new 1; counts 0 1 = 1; looker 1 1 3 = 0; share 100 = 3; bar 0 3 = 1; share 100 = 3; bar 0 2 = 1
            share 100 = 2
            bar 0 0 = 1; share 100 = 1; rest 0 0 1 = 1; share 100 = 1; rest 0 3 24 = 1; share 100 = 1
            rest 0 1 2 = 1; share 100 = 0
            new 1; counts 0 1 = 1; looker 1 1 24 = 0; bar 0 23 = 1; share 100 = 23; rest 0 22 24 = 1; share 100 = 22
            rest 0 0 1 = 1; share 100 = 21; rest 0 0 24 = 1; share 100 = 0
            new 1; counts 0 1 = 1; looker 1 1 1 = 0; looker 1 1 1 = 1; rest 0 1 24 = 1; share 100 = 2; bar 1 0 = 1
            share 100 = 1
            of 0 0 = 1; of 1 0 = 0
            """);
        holds("h times as many squares as in one, but not more than the area", """
            new 2; counts 0 60 = 1; counts 1 1 = 1; looker 59 1 1 = 0; looker 1 1 1 = 1; looker 1000 1 1 = 2
            look 0 0 1 0 = 0; after 0 0 = 1; after 0 1 = 2
            look 0 0 1 0 = 1; after 0 0 = 0; after 0 1 = 1; after 1 0 = 1; after 1 1 = 1; look 0 0 100 0 = 2
            after 0 0 = 0; after 1 1 = 1
            new 2; counts 0 60 = 1; counts 1 1 = 1; looker 1 1 24 = 0; look 0 0 59 0 = 0; after 0 0 = 1; after 0 1 = 2
            look 0 0 1 0 = 1; after 0 0 = 0; look 0 0 1 0 = 2; after 0 0 = 0; after 1 0 = 1
            new 2; counts 0 60 = 1; counts 1 1 = 1; looker 1000 1 24 = 0; looker 1 1 1 = 1; 0..199: look 0 0 100 0 = #
            after 0 0 = 0; after 1 0 = 1; after 1 1 = 1; stop 60 61 = 1; stops = 1; stop 61 62 = 1; stops = 0
            new 1; counts 0 1 = 1; area 0 1 = 1; looker 1000 1 24 = 0; share 100 = 1; found 0 = 1; found 1 = 1
            """);
        holds("of several lookers the product of what each of them missed", """
            new 1; counts 0 7 = 1; 0..3: looker 30 1 1 = #; share 1 = 1; found 0 = 1; found 1 = 2; share 2 = 2
            found 0 = 3; found 1 = 4
            share 3 = 3; found 0 = 7; found 1 = 8; share 100 = 4; found 0 = 15; found 1 = 16
            new 2; counts 0 3 = 1; counts 1 3 = 1; 0..1: looker 30 1 1 = #; look 0 0 1 0 = 0; look 1 0 1 0 = 1
            after 0 0 = 1; after 0 1 = 5
            new 1; counts 0 1 = 1; area 0 720 = 1; 0..3: looker 719 1 1 = #; share 100 = 4; found 0 = 268738559999
            found 1 = 268738560000
            """);
    }

    private static void planOfTheTerms() {
        holds("THE PLAN .. begins with none", """
            new 2; counts 0 5 = 1; looker 60 1 5 = 0; of 0 0 = 0; of 0 1 = 0; found 0 = 0; found 1 = 1; tried = 1
            """);
        holds("to the looker (of those who have hours of use that are not given)", """
            new 1; counts 0 1 = 1; looker 20 1 1 = 0; looker 1 1 2 = 1; share 100 = 3; of 0 0 = 1; of 1 0 = 2
            bar 0 0 = 1; share 100 = 2; of 0 0 = 0; of 1 0 = 2; rest 1 0 24 = 1; share 100 = 0; of 0 0 = 0; of 1 0 = 0
            """);
        holds("the cell with the greatest gain", """
            new 3; counts 0 1 = 1; counts 1 3 = 1; counts 2 2 = 1; looker 60 1 3 = 0
            share 1 = 1; of 0 1 = 1; share 2 = 2; of 0 2 = 1; of 0 0 = 0; share 3 = 3; of 0 0 = 1
            """);
        holds("of the same gain the lesser looker, then the lesser cell", """
            new 3; counts 2 5 = 1; counts 1 5 = 1; looker 6 1 1 = 0; looker 6 1 1 = 1; share 1 = 1; of 0 1 = 1
            share 2 = 2; of 1 2 = 1
            new 2; counts 0 10 = 1; counts 1 2 = 1; area 1 10 = 1; looker 10 1 1 = 0; looker 12 1 1 = 1; share 1 = 1
            of 0 1 = 1; of 1 0 = 0; of 1 1 = 0; share 2 = 2; of 1 0 = 1
            """);
        holds("as long as it is above 0", """
            new 3; counts 0 0 = 1; area 1 1 = 1; looker 60 1 24 = 0; share 100 = 0; counts 0 1 = 1; share 100 = 1
            of 0 1 = 0; of 0 2 = 0
            new 1; counts 0 1 = 1; looker 59 1 24 = 0; looker 1 1 24 = 1; share 100 = 2; of 0 0 = 2; of 1 0 = 0
            new 1; counts 0 1 = 1; area 0 720 = 1; 0..2: looker 719 1 1 = #; looker 719 1 24 = 3; share 100 = 5
            found 0 = 1; found 1 = 1
            """);
        String planned = "new 3; counts 0 5 = 1; looker 60 1 2 = 0; stop 1 2 = 1; bar 0 1 = 1; thing = 1; share 5 = 1; "
            + "of 0 0 = 1; ";
        String none = "; of 0 0 = 0; found 0 = 0; found 1 = 1; share 5 = 1; of 0 0 = 1\n";
        String[] tellings = {"counts 0 5", "counts 1 0", "countsOf 0 0 5", "countsOf 1 0 0", "countsOf 1 2 0",
            "area 0 60", "area 1 60", "bar 0 1", "bar 0 23", "rest 0 1 2", "rest 0 23 24", "stop 1 2", "stop 0 1"};
        StringBuilder runs = new StringBuilder();
        for (String telling : tellings) {
            runs.append(planned).append(telling).append(" = 1").append(none);
        }
        runs.append(planned).append("looker 1 1 1 = 1; of 0 0 = 0; found 0 = 0\n");
        runs.append(planned).append("thing = 2; of 0 0 = 0; found 0 = 0\n");
        runs.append(planned).append("look 0 0 1 0 = 0; of 0 0 = 1; found 0 = 1; seen 0 0 = 1").append(none);
        holds("When anything but a look is told (by bar(), rest(), stop(), seen(), too, also if it was so), the plan is "
            + "none again", runs.toString());
    }

    private static void looksOfTheTerms() {
        holds("all hours of the same looker in the same cell count together", """
            new 2; counts 0 4 = 1; counts 1 4 = 1; looker 20 1 1 = 0; looker 20 1 1 = 1; look 0 0 1 0 = 0
            look 0 0 1 0 = 1
            after 0 0 = 1; after 0 1 = 4; look 0 1 1 0 = 2; after 0 0 = 1; after 0 1 = 3; look 0 0 1 0 = 3
            after 0 0 = 0; after 1 0 = 1
            look 0 1 2 0 = 4; after 1 0 = 0; after 1 1 = 1
            """);
        holds("over the sum of that for all told cells", """
            new 3; counts 0 1 = 1; area 2 60 = 1; after 0 0 = 1; after 0 1 = 1; after 1 0 = 0; after 1 1 = 1
            after 2 0 = 0; after 2 1 = 1
            """);
        holds("When it was SEEN in a cell they are 1 there, 0 in others", """
            new 3; counts 0 1 = 1; counts 1 9 = 1; looker 60 1 1 = 0; look 0 0 1 0 = 0; after 0 0 = 0; seen 0 0 = 1
            after 0 0 = 1; after 0 1 = 1; 1..2: after # 0 = 0; 1..2: after # 1 = 1
            odds 0 0 = 1; odds 0 1 = 1; 1..2: odds # 0 = 0; 1..2: odds # 1 = 1; order 0 = 0; order 1 = 1
            """);
    }

    private static void fractionsOfTheTerms() {
        holds("Fractions are told in lowest terms (part 0: above, part 1: below)", """
            new 40; counts 0 1000 = 1; counts 1 1000 = 1; odds 0 0 = 1; odds 0 1 = 2; after 0 0 = 1; after 0 1 = 2
            2..39: counts # 1000 = 1; odds 0 0 = 1; odds 0 1 = 40; counts 0 999 = 1; odds 0 0 = 333; odds 0 1 = 13333
            counts 0 1000 = 1; 0..39: area # 720 = 1; 0..3: looker 719 1 1 = #; 0..3: look # 0 1 0 = #
            after 0 0 = 1; after 0 1 = 10480803840001; after 1 0 = 268738560000; after 39 1 = 10480803840001
            new 40; 0..39: counts # 1000 = 1; 0..39: area # 720 = 1; 0..3: looker 1 1 1 = #; 0..3: look # 0 1 0 = #
            after 0 0 = 267248675521; after 0 1 = 10748052515521; after 1 0 = 268738560000
            """);
        holds("0 as 0 over 1; also when there are no counts, or all of them were looked over", """
            new 2; odds 0 0 = 0; odds 0 1 = 1; after 0 0 = 0; after 0 1 = 1; found 0 = 0; found 1 = 1
            counts 0 0 = 1; odds 0 0 = 0; odds 0 1 = 1; after 0 0 = 0; after 0 1 = 1; found 0 = 0; found 1 = 1
            looker 60 1 1 = 0; share 1 = 0; found 0 = 0; found 1 = 1; counts 1 8 = 1; odds 0 0 = 0; odds 0 1 = 1
            found 0 = 0; found 1 = 1
            look 0 1 1 0 = 0; after 0 0 = 0; after 0 1 = 1; after 1 0 = 0; after 1 1 = 1; odds 1 0 = 1; odds 1 1 = 1
            """);
        holds("What is refused changes nothing. Checks are made in this order", """
            new 5; ! counts -1 -1; ! odds 5 2; ! looker 0 0 0; ! bar 0 24; ! share 101; ! of 0 5; ! look 0 0 0 -1
            ! after -1 -1
            ! found 2; ! line 0 60 2; ! covers 5; ! rest 0 1 0; ! countsOf 1 5 1001; ! stop -1 0; ! order 0
            ! seen 0 0; ! log 0 4; ! area 5 0
            counts 0 6 = 1; counts 1 4 = 1; looker 2 1 3 = 0; looker 3 1 2 = 1; stop 1 3 = 1; share 3 = 3
            ! counts 5 1001; ! odds -1 -1; ! looker 1001 1001 25; ! bar 2 -1; ! share -1; ! of 2 -1
            ! look 2 2 101 -1; ! after 5 2
            ! found -1; ! line 2 -1 -1; ! covers 2; ! rest 2 24 25; ! countsOf -1 -1 -1; ! stop 102 101; ! order 2
            ! seen 2 2
            ! log -1 -1; ! area -1 -1
            look 0 0 1 3 = 0; look 1 1 2 1 = 1; ! looker 1 1 1; ! area 0 12; ! area 3 60; ! look 0 2 1 0; ! log 2 0
            ! seen 0 1
            seen 0 0 = 1; ! seen 1 1; ! seen 0 0; ! counts 0 6; ! counts 2 1; ! look 0 0 1 9; ! looker 1 1 1
            ! area 0 60
            """);
    }

    private static void making() {
        holds("So many cells (below 1 they are 1", """
            new 1; odds 0 1 = 1; ! odds 1 0; ! counts 1 1; counts 0 1 = 1
            new 0; odds 0 1 = 1; ! odds 1 0; ! counts 1 1; counts 0 1 = 1
            new -1; odds 0 1 = 1; ! odds 1 0; ! counts 1 1; ! counts -1 1; counts 0 1 = 1
            new -2147483648; odds 0 1 = 1; ! odds 1 0; counts 0 1 = 1
            new 2; odds 1 1 = 1; ! odds 2 0; counts 1 1 = 1; ! counts 2 1
            """);
        holds("above 65536 they are 65536)", """
            new 65535; odds 65534 1 = 1; ! odds 65535 0; counts 65534 1 = 1; ! counts 65535 1
            new 65536; odds 65535 1 = 1; ! odds 65536 0; counts 65535 1 = 1; ! counts 65536 1; order 0 = 65535
            new 65537; odds 65535 1 = 1; ! odds 65536 0; counts 65535 1 = 1; ! counts 65536 1
            new 2147483647; odds 65535 1 = 1; ! odds 65536 0; ! counts 65536 1; ! counts 2147483647 1
            counts 65535 1 = 1
            """);
        holds("none of them told", """
            new 65536; order 0 = -1; covers 0 = 0; covers 65535 = 0; line 0 0 0 = -1; sums = 0; looker 60 1 1 = 0
            share 1 = 0; look 0 0 1 0 = -1
            """);
    }

    private static void countsAndOdds() {
        holds("2: countsOf ( 0, cell, n )", """
            new 50; thing = 1; counts 0 0 = 1; counts 0 1000 = 1; ! counts 0 1001; ! counts 0 -1
            ! counts 0 4294967297
            ! counts 0 9223372036854775807; ! counts 0 -9223372036854775808; ! counts 50 1; ! counts -1 1
            ! counts 2147483647 1
            counts 49 1 = 1; odds 0 0 = 1000; odds 0 1 = 1001; odds 49 0 = 1; 1..38: counts # 1 = 1; ! counts 39 1
            counts 38 2 = 1
            looker 60 1 1 = 0; look 0 0 1 0 = 0; counts 0 7 = 1; seen 0 0 = 1; ! counts 0 7; ! counts 1 1
            """);
        holds("3: NONE when there is no such cell, or for other parts", """
            new 5; counts 4 3 = 1; counts 0 6 = 1; odds 4 0 = 1; odds 4 1 = 3; odds 0 0 = 2; odds 0 1 = 3
            odds 2 0 = 0; odds 2 1 = 1
            ! odds 5 0; ! odds 5 1; ! odds -1 0; ! odds -1 1; ! odds 2147483647 0; ! odds -2147483648 0
            ! odds 4 2; ! odds 4 -1; ! odds 2 2; ! odds 4 2147483647; ! odds 4 -2147483648
            looker 60 1 1 = 0; look 0 0 1 0 = 0; seen 0 0 = 1; ! odds 5 0; ! odds -1 0; ! odds 0 2; ! odds 0 -1
            """);
    }

    private static void lookersAndTheirHours() {
        String planned = "new 2; counts 0 6 = 1; looker 1 1 2 = 0; share 1 = 1; ";
        holds("4: NONE when there are 4", planned + """
            1..3: looker 1 1 1 = #; share 9 = 5; ! looker 1 1 1; ! looker 1000 1 24; of 3 0 = 1; ! of 4 0
            """);
        holds("4: or a looker has looked", planned + """
            look 0 0 1 0 = 0; ! looker 1 1 1; ! of 1 0
            """);
        holds("4: or width or speed is not 1 .. 1000", planned + """
            ! looker 0 1 1; ! looker 1 0 1; ! looker 1001 1 1; ! looker 1 1001 1; ! looker 0 0 1; ! looker 0 1000 1
            ! looker -1 1 1
            ! looker 1 -1 1; ! looker -1 -1 1; ! looker -2 -3 1; ! looker 4294967297 1 1; ! looker 1 4294967297 1
            ! looker 4294967296 4294967296 1
            ! looker 9223372036854775807 9223372036854775807 1; ! looker -9223372036854775808 2 1
            ! looker 2 -9223372036854775808 1
            ! looker 9223372036854775807 -1 1; looker 1 1 1 = 1; looker 1000 1 1 = 2; looker 1 1000 1 = 3
            """);
        holds("4: or width times speed above 1000", planned + """
            ! looker 7 143 1; ! looker 143 7 1; ! looker 91 11 1; ! looker 1000 2 1; ! looker 2 1000 1
            ! looker 1000 1000 1; ! looker 40 26 1
            ! looker 501 2 1; looker 40 25 1 = 1; looker 500 2 1 = 2; looker 999 1 1 = 3
            """);
        holds("4: or hours not 1 .. 24", planned + """
            ! looker 1 1 0; ! looker 1 1 -1; ! looker 1 1 25; ! looker 1 1 2147483647; ! looker 1 1 -2147483648
            looker 1 1 1 = 1; looker 1 1 24 = 2; share 100 = 27; of 1 0 = 1; of 2 0 = 24
            """);
        holds("5: An hour of a looker, 0 .. 23, is barred. False when there is no such looker, or hour", """
            new 1; counts 0 6 = 1; ! bar 0 0; ! bar -1 0; looker 1 1 24 = 0; share 100 = 24; ! bar 0 24; ! bar 0 -1
            ! bar 0 2147483647
            ! bar 0 -2147483648; ! bar 1 0; ! bar -1 0; ! bar 4 0; ! bar 2147483647 0; ! bar -2147483648 0
            of 0 0 = 24
            bar 0 0 = 1; share 100 = 23; bar 0 23 = 1; share 100 = 22; bar 0 23 = 1; share 100 = 22
            1..22: bar 0 # = 1; share 100 = 0
            """);
        holds("15: False when there is no such looker, or it is not 0 <= from < to <= 24", """
            new 1; counts 0 6 = 1; ! rest 0 0 1; looker 1 1 24 = 0; share 100 = 24; ! rest 1 0 1; ! rest -1 0 1
            ! rest 4 0 1
            ! rest 2147483647 0 1; ! rest -2147483648 0 1; ! rest 0 -1 1; ! rest 0 0 0; ! rest 0 1 1; ! rest 0 2 1
            ! rest 0 24 24; ! rest 0 24 25
            ! rest 0 0 25; ! rest 0 23 25; ! rest 0 -1 0; ! rest 0 -1 24; ! rest 0 -2147483648 2147483647
            ! rest 0 2147483647 -2147483648
            ! rest 0 0 -1; of 0 0 = 24
            rest 0 0 1 = 1; share 100 = 23; rest 0 23 24 = 1; share 100 = 22; rest 0 22 24 = 1; share 100 = 21
            rest 0 0 24 = 1; share 100 = 0
            """);
        holds("15: hours from .. to - 1", """
            new 1; counts 0 6 = 1; looker 1 1 6 = 0; rest 0 2 4 = 1; share 100 = 4; bar 0 2 = 1; bar 0 3 = 1
            share 100 = 4
            bar 0 4 = 1; share 100 = 3; bar 0 1 = 1; share 100 = 2; rest 0 5 24 = 1; share 100 = 1; rest 0 6 24 = 1
            share 100 = 1
            """);
    }

    private static void plans() {
        holds("6: of so many hours at most: how many it has", """
            new 1; counts 0 1 = 1; area 0 720 = 1; 0..3: looker 1 1 24 = #; share 0 = 0; share 1 = 1; share 95 = 95
            share 96 = 96; share 97 = 96
            share 100 = 96; 0..3: of # 0 = 24; share 2 = 2; of 0 0 = 2; of 1 0 = 0; share 0 = 0; 0..3: of # 0 = 0
            new 1; share 100 = 0; counts 0 1 = 1; share 100 = 0; looker 1 1 1 = 0; share 100 = 1; bar 0 0 = 1
            share 100 = 0
            new 1; looker 1 1 1 = 0; share 100 = 0
            """);
        holds("6: NONE when steps is not 0 .. 100", """
            new 1; ! share -1; ! share 101; counts 0 1 = 1; looker 1 1 3 = 0; share 2 = 2; ! share -1; ! share 101
            ! share 2147483647
            ! share -2147483648; of 0 0 = 2; share 100 = 3
            """);
        holds("7: NONE when there are none such", """
            new 5; ! of 0 0; counts 0 1 = 1; ! of 0 0; looker 1 1 3 = 0; share 2 = 2; of 0 0 = 2; of 0 4 = 0
            ! of 0 5; ! of 0 -1; ! of 1 0; ! of -1 0
            ! of 4 0; ! of 0 2147483647; ! of 0 -2147483648; ! of 2147483647 0; ! of -2147483648 0
            """);
        triedPlans();
        holds("12: NONE for other parts", """
            new 1; ! found 2; ! found -1; counts 0 1 = 1; looker 6 1 1 = 0; share 1 = 1; ! found 2; ! found -1
            ! found 2147483647
            ! found -2147483648; found 0 = 1; found 1 = 10
            """);
        holds("12: over all weights", """
            new 3; thing = 1; found 0 = 0; found 1 = 1; counts 0 1 = 1; countsOf 1 1 3 = 1; looker 60 1 2 = 0
            found 0 = 0; found 1 = 1
            share 1 = 1; found 0 = 3; found 1 = 4; share 2 = 2; found 0 = 1; found 1 = 1; area 2 1 = 1; share 2 = 2
            found 0 = 1; found 1 = 1
            """);
    }

    private static void triedPlans() {
        holds("8: Whether no other plan of as many hours .. finds more", """
            new 1; tried = 1
            new 2; counts 0 5 = 1; counts 1 5 = 1; looker 6 1 1 = 0; looker 6 1 1 = 1; tried = 1; share 1 = 1
            tried = 1; share 2 = 2; tried = 1
            new 2; counts 0 10 = 1; counts 1 9 = 1; area 0 30 = 1; looker 60 1 1 = 0; looker 30 1 1 = 1; share 1 = 1
            tried = 1
            share 2 = 2; of 0 0 = 1; of 1 1 = 1; tried = 0
            new 2; counts 0 9 = 1; counts 1 10 = 1; area 1 30 = 1; looker 60 1 1 = 0; looker 30 1 1 = 1; share 2 = 2
            tried = 0
            """);
        holds("8: (each looker's not above those of use)", """
            new 2; counts 0 10 = 1; counts 1 9 = 1; area 0 30 = 1; looker 60 1 2 = 0; looker 30 1 1 = 1
            rest 0 1 24 = 1; share 2 = 2; tried = 0
            bar 1 0 = 1; share 2 = 1; tried = 1
            new 1; counts 0 10 = 1; looker 20 1 1 = 0; looker 1 1 9 = 1; share 4 = 4; of 0 0 = 1; of 1 0 = 3
            tried = 1
            """);
        holds("8: False, too, when the told cells times the lookers are more than 12", """
            new 40; 0..11: counts # 1 = 1; tried = 1; looker 7 1 24 = 0; tried = 1; share 5 = 5; tried = 1
            area 12 60 = 1; tried = 0
            share 1 = 1; tried = 0
            new 40; 0..5: counts # 1 = 1; 0..1: looker 7 1 24 = #; share 5 = 5; tried = 1; area 6 60 = 1
            share 1 = 1; tried = 0
            new 40; 0..3: counts # 1 = 1; 0..2: looker 7 1 24 = #; share 5 = 5; tried = 1; area 4 60 = 1; tried = 0
            new 40; 0..3: counts # 1 = 1; 0..2: looker 7 1 24 = #; tried = 1; looker 1 1 1 = 3; tried = 0
            new 40; 0..2: counts # 1 = 1; 0..3: looker 7 1 24 = #; share 5 = 5; tried = 1; area 39 60 = 1; tried = 0
            new 40; 0..39: counts # 1 = 1; tried = 1; looker 1 1 1 = 0; tried = 0
            """);
        holds("8: or the plan has more than 5 hours", """
            new 1; counts 0 1 = 1; looker 1 1 24 = 0; share 5 = 5; tried = 1; share 6 = 6; tried = 0; share 24 = 24
            tried = 0; share 0 = 0; tried = 1
            new 2; counts 0 10 = 1; counts 1 9 = 1; area 0 30 = 1; looker 60 1 1 = 0; looker 30 1 1 = 1
            looker 1 1 3 = 2; share 9 = 5
            of 0 0 = 1; of 1 1 = 1; of 2 1 = 3; tried = 0; rest 0 0 24 = 1; share 9 = 4; tried = 1
            """);
    }

    private static void looks() {
        String looking = "new 5; counts 0 6 = 1; counts 1 4 = 1; looker 2 1 3 = 0; looker 3 1 2 = 1; share 2 = 2; ";
        holds("9: NONE when there is no such looker or told cell", looking + """
            ! look 2 0 1 0; ! look -1 0 1 0; ! look 4 0 1 0; ! look 2147483647 0 1 0; ! look -2147483648 0 1 0
            ! look 0 2 1 0; ! look 0 4 1 0; ! look 0 5 1 0; ! look 0 -1 1 0; ! look 0 2147483647 1 0
            ! look 0 -2147483648 1 0
            look 1 1 1 0 = 0; log 0 0 = 1; log 0 1 = 1
            new 1; ! look 0 0 1 0; counts 0 1 = 1; ! look 0 0 1 0
            """);
        holds("9: or thing 0 was seen", looking + """
            look 0 0 1 0 = 0; look 1 1 1 0 = 1; seen 0 0 = 1; ! look 0 0 1 0; ! look 1 1 1 0; log 2 0 = -1
            """);
        holds("9: or there are 200", looking + """
            counts 2 1 = 1; 0..198: look 0 2 1 5 = #; look 1 2 100 4 = 199; ! look 0 0 1 5; ! look 1 1 1 0
            after 0 0 = 3; after 0 1 = 5
            log 0 3 = 199; log 199 3 = 198; ! log 200 3
            """);
        holds("9: or hours is not 1 .. 100", looking + """
            ! look 0 0 0 0; ! look 0 0 -1 0; ! look 0 0 101 0; ! look 0 0 4294967297 0
            ! look 0 0 9223372036854775807 0
            ! look 0 0 -9223372036854775808 0; look 0 0 1 0 = 0; look 0 0 100 1 = 1; log 0 2 = 1; log 1 2 = 100
            """);
        holds("9: or told below 0", looking + """
            ! look 0 0 1 -1; ! look 0 0 1 -9223372036854775808; look 0 0 1 9223372036854775807 = 0; look 0 0 2 0 = 1
            log 0 3 = 1; log 1 3 = 0
            """);
        holds("10: NONE when there is no such cell, or for other parts", looking + """
            after 4 0 = 0; after 4 1 = 1; after 0 0 = 3; after 0 1 = 5
            ! after 5 0; ! after 5 1; ! after -1 0; ! after -1 1; ! after 2147483647 0; ! after -2147483648 0
            ! after 0 2; ! after 0 -1; ! after 4 2; ! after 0 2147483647; ! after 0 -2147483648
            look 0 0 1 0 = 0; ! after 5 0; seen 0 0 = 1; ! after 5 0; ! after -1 1; ! after 0 2; ! after 0 -1
            """);
        holds("11: Whether the odds after the looks come to 1 over all told cells", """
            new 2; sums = 0; counts 0 0 = 1; sums = 0; thing = 1; countsOf 1 0 9 = 1; sums = 0; counts 1 1 = 1
            sums = 1; counts 1 0 = 1; sums = 0
            counts 0 1000 = 1; counts 1 1 = 1; 0..3: looker 59 1 1 = #; 0..3: look # 0 1 0 = #; look 0 1 2 0 = 4
            sums = 1; after 0 0 = 1
            look 3 0 1 0 = 5; sums = 0; seen 1 0 = 1; sums = 1
            new 1; counts 0 1 = 1; looker 60 1 1 = 0; look 0 0 1 0 = 0; sums = 0; counts 0 2 = 1; sums = 0
            new 1; counts 0 1 = 1; area 0 720 = 1; 0..3: looker 719 1 1 = #; 0..3: look # 0 1 0 = #; sums = 1
            look 3 0 1 0 = 4; sums = 0
            """);
    }

    /** The ends of the first, the second and the last row of the way, and the first square that is none. */
    private static String wayOf(int area, int w) {
        int last = area / w - 1;
        String first = "new 1; area 0 " + area + " = 1; line 0 0 0 = 0; line 0 0 1 = 0"
            + "; line 0 " + (w - 1) + " 0 = " + (w - 1) + "; line 0 " + (w - 1) + " 1 = 0\n";
        String second = "line 0 " + w + " 0 = " + (w - 1) + "; line 0 " + w + " 1 = 1; line 0 " + (2 * w - 1) + " 0 = 0\n";
        String end = "line 0 " + (area - 1) + " 1 = " + last + "; line 0 " + (area - 1) + " 0 = " + endOfWay(area)
            + "; ! line 0 " + area + " 0; ! line 0 " + area + " 1\n";
        return first + (last > 0 ? second : "") + end;
    }

    /** Where the last square of the way lies in its row: a way of an even number of rows ends at 0. */
    private static int endOfWay(int area) {
        for (int[] areaAndWidth : WIDTHS) {
            if (areaAndWidth[0] == area) {
                return area / areaAndWidth[1] % 2 == 0 ? 0 : areaAndWidth[1] - 1;
            }
        }
        throw new IllegalArgumentException("no divisor of 720: " + area);
    }

    private static void ways() {
        StringBuilder rows = new StringBuilder();
        StringBuilder covered = new StringBuilder();
        for (int[] areaAndWidth : WIDTHS) {
            int area = areaAndWidth[0];
            rows.append(wayOf(area, areaAndWidth[1]));
            covered.append("new 2; area 1 " + area + " = 1; covers 1 = 1; covers 0 = 0\n");
        }
        holds("13: rows of w, the greatest divisor of the area whose square is not above it; .. the next one back",
            rows.toString());
        holds("13: NONE when there is no such told cell, square, or axis", """
            new 3; ! line 0 0 0; ! line 3 0 0; ! line -1 0 0; counts 1 1 = 1; line 1 0 0 = 0; line 1 59 1 = 9
            ! line 1 60 0; ! line 1 60 1
            ! line 1 -1 0; ! line 1 -1 1; ! line 1 2147483647 0; ! line 1 -2147483648 0; ! line 1 0 2; ! line 1 0 -1
            ! line 1 0 2147483647
            ! line 1 0 -2147483648; ! line 0 0 0; ! line 2 0 0; ! line 3 0 0; ! line -1 0 0; ! line 2147483647 0 0
            ! line -2147483648 0 0
            area 1 1 = 1; line 1 0 1 = 0; ! line 1 1 0; ! line 1 1 1
            """);
        holds("14: Whether that way comes to each square of a told cell once", covered.toString());
        holds("14: false when there is none such", """
            new 3; ! covers 0; ! covers 3; ! covers -1; counts 1 0 = 1; covers 1 = 1; ! covers 0; ! covers 2
            ! covers 3; ! covers -1
            ! covers 2147483647; ! covers -2147483648
            """);
    }

    private static void thingsAndTheirCounts() {
        String known = "new 50; counts 0 5 = 1; looker 60 1 2 = 0; share 1 = 1; ";
        holds("16: without counts: its number. NONE when there are 4", known + """
            1..3: thing = #; share 1 = 1; found 0 = 1; found 1 = 1; ! thing; countsOf 3 0 1 = 1; ! countsOf 4 0 1
            ! thing
            new 1; counts 0 1 = 1; looker 1 1 1 = 0; look 0 0 1 0 = 0; thing = 1; seen 0 0 = 1; thing = 2; thing = 3
            ! thing
            """);
        holds("17: False when there is no such thing or cell", known + """
            ! countsOf 1 0 1; ! countsOf -1 0 1; ! countsOf 4 0 1; ! countsOf 2147483647 0 1
            ! countsOf -2147483648 0 1; thing = 1; countsOf 1 0 1 = 1
            ! countsOf 2 0 1; ! countsOf 1 50 1; ! countsOf 1 -1 1; ! countsOf 0 2147483647 1
            ! countsOf 0 -2147483648 1; countsOf 1 49 1 = 1
            """);
        holds("17: or thing 0 was seen", known + """
            thing = 1; countsOf 1 1 4 = 1; look 0 0 1 0 = 0; countsOf 1 1 5 = 1; countsOf 0 0 6 = 1; seen 0 0 = 1
            share 2 = 2
            ! countsOf 0 0 6; ! countsOf 0 0 0; ! countsOf 1 1 5; ! countsOf 1 1 6; ! countsOf 0 2 1; of 0 0 = 1
            of 0 1 = 1
            """);
        holds("17: or n is not 0 .. 1000", known + """
            ! countsOf 0 0 -1; ! countsOf 0 0 1001; ! countsOf 0 1 1001; ! countsOf 0 0 4294967296
            ! countsOf 0 0 4294967301
            ! countsOf 0 0 9223372036854775807; ! countsOf 0 0 -9223372036854775808
            countsOf 0 0 1000 = 1; countsOf 0 1 1 = 1; odds 0 1 = 1001; countsOf 0 0 0 = 1; odds 0 0 = 0; odds 1 1 = 1
            """);
        holds("17: or it would be the 41st told cell", known + """
            thing = 1; 1..39: countsOf 1 # 1 = 1; ! countsOf 0 40 1; ! countsOf 1 40 0; ! countsOf 1 49 1
            countsOf 0 39 3 = 1; odds 39 0 = 3
            ! countsOf 0 40 1001; odds 40 0 = 0; odds 40 1 = 1
            """);
    }

    private static void stopping() {
        String sought = "new 2; counts 0 1 = 1; looker 6 1 2 = 0; stop 1 2 = 1; share 1 = 1; ";
        holds("18: False when it is not 0 <= above <= below", sought + """
            ! stop -1 1; ! stop 2 1; ! stop 101 100; ! stop -1 100; ! stop -9223372036854775808 1
            ! stop 9223372036854775807 100
            ! stop 4294967296 1; ! stop 4294967297 1; stop 0 1 = 1; stops = 1; stop 1 1 = 1; stops = 0
            stop 99 100 = 1; stops = 0
            stop 100 100 = 1; stops = 0; stop 0 100 = 1; stops = 1
            """);
        holds("18: 1 <= below <= 100", sought + """
            ! stop 0 0; ! stop 0 -1; ! stop -1 -1; ! stop 0 101; ! stop 1 101; ! stop 101 101; ! stop 0 4294967297
            ! stop 1 4294967297
            ! stop 0 9223372036854775807; ! stop -9223372036854775808 -9223372036854775808
            ! stop 9223372036854775807 9223372036854775807
            stop 0 1 = 1; stop 0 100 = 1; stops = 1
            new 2; counts 0 1 = 1; ! stop 0 0; ! stop 0 101; stops = -1
            """);
        holds("19: 1 when it may stop: .. is as much as told; 0 when not", """
            new 2; counts 0 6 = 1; counts 1 4 = 1; looker 6 1 2 = 0; looker 1 1 1 = 1; stop 0 1 = 1; stops = 1
            stop 1 100 = 1; stops = 0
            look 0 0 1 0 = 0; stop 6 100 = 1; stops = 1; stop 3 50 = 1; stops = 1; stop 5 83 = 1; stops = 0
            stop 5 84 = 1; stops = 1; stop 7 100 = 1; stops = 0
            stop 1 1 = 1; look 0 0 9 0 = 1; stops = 0; look 0 1 9 0 = 2; stops = 0; look 0 1 1 0 = 3; stops = 1
            new 40; 0..39: counts # 1000 = 1; 0..39: area # 720 = 1; 0..3: looker 719 1 1 = #; 0..3: look # 0 1 0 = #
            stop 1 40 = 1; stops = 0; stop 2 81 = 1; stops = 1; look 0 0 1 0 = 4; stop 1 40 = 1; stops = 1
            stop 2 79 = 1; stops = 0; stop 100 100 = 1; stops = 0
            """);
        holds("19: NONE when nothing was told of that, or thing 0 has no counts", """
            new 2; stops = -1; counts 0 1 = 1; stops = -1; stop 1 1 = 1; stops = 0; counts 0 0 = 1; stops = -1
            thing = 1; countsOf 1 0 9 = 1; stops = -1
            new 2; stop 0 1 = 1; stops = -1; area 0 60 = 1; stops = -1; counts 0 1 = 1; stops = 1
            """);
        holds("19: (Seen, and something told of that: 1.)", """
            new 2; counts 0 1 = 1; counts 1 1 = 1; looker 1 1 1 = 0; look 0 0 1 0 = 0; seen 0 0 = 1; stops = -1
            stop 1 1 = 1; stops = 1
            new 2; counts 0 1 = 1; counts 1 1 = 1; looker 1 1 1 = 0; look 0 0 1 0 = 0; stop 1 1 = 1; stops = 0
            seen 0 0 = 1; stops = 1
            """);
    }

    private static void orders() {
        holds("20: those with the greater odds after the looks first, of the same odds the lesser cell", """
            new 9; counts 8 2 = 1; counts 3 2 = 1; counts 5 3 = 1; area 0 1 = 1
            order 0 = 5; order 1 = 3; order 2 = 8; order 3 = 0; looker 20 1 1 = 0
            look 0 5 1 0 = 0; order 0 = 3; order 1 = 5; order 2 = 8; order 3 = 0
            look 0 3 3 0 = 1; order 0 = 5; order 1 = 8; order 2 = 0; order 3 = 3
            look 0 5 2 0 = 2; look 0 8 3 0 = 3; order 0 = 0; order 1 = 3; order 2 = 5; order 3 = 8
            seen 8 0 = 1; order 0 = 8; order 1 = 0; order 2 = 3; order 3 = 5
            new 65536; 1..40: counts # 7 = 1; order 0 = 1; order 39 = 40; counts 40 8 = 1; order 0 = 40; order 39 = 39
            """);
        holds("20: NONE when there is none such", """
            new 9; ! order 0; ! order -1; counts 8 2 = 1; order 0 = 8; ! order 1; counts 3 2 = 1; order 1 = 8; ! order 2
            ! order -1; ! order 2147483647; ! order -2147483648
            looker 1 1 1 = 0; look 0 8 1 0 = 0; seen 8 0 = 1; order 1 = 3; ! order 2; ! order -1
            new 65536; 1..40: counts # 7 = 1; order 39 = 40; ! order 40; ! order 65535
            """);
    }

    private static void seenThings() {
        String looked = "new 5; counts 0 6 = 1; counts 1 4 = 1; counts 2 0 = 1; 0..1: looker 60 1 2 = #; "
            + "look 0 0 1 0 = 0; look 1 1 1 0 = 1; look 0 2 1 0 = 2; share 2 = 2; ";
        holds("21: False when there are none such", looked + """
            ! seen 3 0; ! seen 4 0; ! seen 5 0; ! seen -1 0; ! seen 0 2; ! seen 0 -1; ! seen 0 4
            ! seen 2147483647 0; ! seen -2147483648 0
            ! seen 0 2147483647; ! seen 0 -2147483648
            new 1; ! seen 0 0; counts 0 1 = 1; ! seen 0 0; looker 1 1 1 = 0; ! seen 0 0
            """);
        holds("21: or it was seen", looked + """
            seen 0 0 = 1; share 2 = 2; ! seen 0 0; ! seen 1 1; after 0 0 = 1; after 1 0 = 0
            """);
        holds("21: or that one has no look there", looked + "! seen 0 1; ! seen 1 0; seen 1 1 = 1; after 1 0 = 1");
        holds("21: or there is no count of it there", looked + """
            ! seen 2 0; thing = 1; countsOf 1 2 9 = 1; ! seen 2 0; counts 0 0 = 1; ! seen 0 0; counts 2 1 = 1
            seen 2 0 = 1
            """);
    }

    private static void logs() {
        holds("22: the least first, of the same the one with the lesser number", """
            new 3; 0..2: counts # 1 = 1; 0..1: looker 1 1 1 = #; look 0 2 9 9223372036854775807 = 0
            look 1 1 8 5 = 1; look 0 0 100 0 = 2; look 1 2 6 5 = 3
            look 0 1 1 9223372036854775806 = 4; look 1 0 4 0 = 5; look 0 0 3 4294967296 = 6
            log 0 3 = 2; log 1 3 = 5; log 2 3 = 1; log 3 3 = 3; log 4 3 = 6; log 5 3 = 4; log 6 3 = 0
            log 0 0 = 0; log 0 1 = 0; log 0 2 = 100; log 3 0 = 1; log 3 1 = 2; log 3 2 = 6; log 6 0 = 0; log 6 1 = 2
            log 6 2 = 9
            """);
        holds("22: NONE when there is none such, or for others", """
            new 2; ! log 0 0; ! log -1 0; counts 1 1 = 1; looker 1 1 1 = 0; ! log 0 0; look 0 1 7 3 = 0; log 0 0 = 0
            log 0 1 = 1; log 0 2 = 7; log 0 3 = 0
            ! log 0 4; ! log 0 -1; ! log 0 2147483647; ! log 0 -2147483648; ! log 1 0; ! log -1 0
            ! log 2147483647 0; ! log -2147483648 0; ! log 1 3
            seen 1 0 = 1; log 0 1 = 1; ! log 1 0
            """);
    }

    private static void areas() {
        StringBuilder divisors = new StringBuilder("new 41; ");
        StringBuilder others = new StringBuilder("new 41; area 0 720 = 1; ");
        for (int square = 1; square <= 721; square++) {
            if (square <= 720 && 720 % square == 0) {
                divisors.append("area 40 " + square + " = 1; line 40 " + (square - 1) + " 0 = " + endOfWay(square) + "; ");
            } else if (square < 35 || square > 700 || square % 90 == 0 || square % 90 == 89 || square % 90 == 1) {
                others.append("! area 0 " + square + "; ");
            }
        }
        holds("23: A cell's area: a divisor of 720", divisors.toString());
        holds("23: False when .. it is none", others + """
            ! area 0 0; ! area 0 -1; ! area 0 -60; ! area 0 -720; ! area 0 1440; ! area 0 4294967296
            ! area 0 4294967356
            ! area 0 9223372036854775807; ! area 0 -9223372036854775808; ! area 1 7; line 0 719 1 = 29; covers 1 = 0
            """);
        holds("23: False when there is no such cell", """
            new 3; ! area 3 1; ! area -1 1; ! area 2147483647 1; ! area -2147483648 1; area 2 1 = 1; ! area 3 1
            """);
        holds("23: or a looker has looked", """
            new 3; counts 0 1 = 1; looker 1 1 1 = 0; share 1 = 1; area 0 30 = 1; share 1 = 1; look 0 0 1 0 = 0
            ! area 0 30; ! area 0 60; ! area 1 60; found 1 = 30
            """);
        holds("23: or it would be the 41st told cell", """
            new 50; 10..49: counts # 1 = 1; ! area 0 60; ! area 9 1; area 10 1 = 1; area 49 720 = 1; ! area 0 1
            covers 0 = 0
            """);
    }

    public static void main(String[] args) {
        terms();
        making();
        countsAndOdds();
        lookersAndTheirHours();
        plans();
        looks();
        ways();
        thingsAndTheirCounts();
        stopping();
        orders();
        seenThings();
        logs();
        areas();
        System.out.println(wrong == 0 ? "all " + sentences + " sentences with a boundary hold"
            : wrong + " answers are not as due");
        if (wrong != 0) {
            System.exit(1);
        }
    }
}
