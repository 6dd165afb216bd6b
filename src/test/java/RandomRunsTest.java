import java.util.Random;

/** Runs of almost 512 calls, drawn from a fixed seed each, compared call by call with PlainOffice. */
public final class RandomRunsTest {
    private static final int RUNS = 3000;
    private static final int CALLS = 512;
    // To clear a text, to type the longest command, and to perform it.
    private static final int MOST_CALLS_OF_A_STEP = 32;
    private static final double[] SLOPES = {0.0, 10.0, 14.9, 15.0, 20.0, 29.5, 30.0, 40.0, 45.0, 60.0};
    private static final double[] TEMPERATURES = {0.0, -0.0, 1.0, -1.0, 0.1, -0.3, 5.0, -20.0, 30.0, -40.0};
    private static final double[] WRONG = {-0.0, Double.NaN, 500.1, -41.0, 60.1, Double.NEGATIVE_INFINITY};
    private static final int[] WILD = {Integer.MIN_VALUE, -100, -1, 13, 31, 999, 1000, 10000, Integer.MAX_VALUE};
    private static final String[] WORDS = {"book", "leave", "merge", "cancel", "lead", "boo", "leads", ""};
    private static final String MARKS = " 0159axX-" + (char) 300;

    private final Random random;
    private final GlacierGuides x = new GlacierGuides();
    private final PlainOffice plain = new PlainOffice();
    private final int wildness;
    private String call = "";
    private int calls;

    private RandomRunsTest(long seed) {
        random = new Random(seed);
        wildness = seed % 3 == 0 ? 4 : 40;
    }

    public static void main(String[] args) {
        for (int run = 0; run < RUNS && Checks.wrongSoFar() == 0; run++) {
            RandomRunsTest test = new RandomRunsTest(run);
            while (test.calls <= CALLS - MOST_CALLS_OF_A_STEP && Checks.wrongSoFar() == 0) {
                test.step(run + "/" + test.calls + " ");
            }
        }
        Checks.end();
    }

    private void step(String where) {
        calls++;
        boolean isNumber = random.nextInt(12) == 0;
        if (isNumber) {
            double[] both = askNumber();
            Checks.dueNumber(where + call, both[0], both[1]);
        } else {
            long[] both = random.nextInt(5) < 3 ? act() : ask();
            Checks.due(where + call, both[0], both[1]);
        }
    }

    private int pick(int from, int to) {
        if (random.nextInt(wildness) == 0) {
            return WILD[random.nextInt(WILD.length)];
        }
        return from + random.nextInt(to - from + 1);
    }

    private int aTour() {
        return pick(0, Math.max(0, plain.count(3) - 1));
    }

    private int aGuide() {
        return pick(0, Math.max(0, plain.count(1) - 1));
    }

    private int aBridge() {
        return pick(0, Math.max(0, plain.count(2) - 1));
    }

    private int aDay() {
        return pick(plain.count(0), plain.count(0) + (random.nextInt(3) == 0 ? 30 : 5));
    }

    private long number(double[] some) {
        if (random.nextInt(wildness) == 0) {
            return random.nextBoolean() ? random.nextLong() : Checks.bits(WRONG[random.nextInt(WRONG.length)]);
        }
        return Checks.bits(some[random.nextInt(some.length)]);
    }

    private long aThickness() {
        double[] some = {random.nextDouble() * 500, random.nextInt(60), 17.5 + 2.5 * random.nextInt(9), 500.0};
        return number(some);
    }

    private long[] act() {
        switch (random.nextInt(20)) {
            case 0:
                return addGuide(pick(1, 3), aDay());
            case 1:
                return renew(aGuide(), pick(1, 3), aDay());
            case 2:
                return addBridge(aThickness());
            case 3:
                return setTemperature(number(TEMPERATURES));
            case 4:
            case 5:
                return addTour(aDay(), number(SLOPES), pick(1, 300), pick(0, (1 << plain.count(2)) - 1));
            case 6:
            case 7:
                return book(aTour(), pick(1, 8));
            case 8:
                return leave(aTour(), pick(1, 4));
            case 9:
            case 10:
            case 11:
                return lead(aGuide(), aTour());
            case 12:
                return release(aGuide(), aTour());
            case 13:
                return merge(aTour(), aTour());
            case 14:
                return random.nextInt(4) == 0 ? cancel(aTour()) : leadBest(aTour());
            case 15:
                return pass(pick(1, random.nextInt(4) == 0 ? 30 : 3));
            case 16:
                return perform();
            case 17:
                return typeMark();
            case 18:
                return undo();
            default:
                return random.nextInt(3) > 0 ? keep() : restore();
        }
    }

    private long[] addGuide(int kind, int until) {
        call = "addGuide(" + kind + ", " + until + ")";
        return new long[] {x.addGuide(kind, until), plain.addGuide(kind, until)};
    }

    private long[] renew(int guide, int kind, int until) {
        call = "renew(" + guide + ", " + kind + ", " + until + ")";
        return new long[] {x.renew(guide, kind, until), plain.renew(guide, kind, until)};
    }

    private long[] addBridge(long bits) {
        call = "addBridge(" + bits + ")";
        return new long[] {x.addBridge(bits), plain.addBridge(bits)};
    }

    private long[] setTemperature(long bits) {
        call = "setTemperature(" + bits + ")";
        return new long[] {x.setTemperature(bits), plain.setTemperature(bits)};
    }

    private long[] addTour(int day, long slope, int price, int bridges) {
        call = "addTour(" + day + ", " + slope + ", " + price + ", " + bridges + ")";
        return new long[] {x.addTour(day, slope, price, bridges), plain.addTour(day, slope, price, bridges)};
    }

    private long[] book(int tour, int guests) {
        call = "book(" + tour + ", " + guests + ")";
        return new long[] {x.book(tour, guests), plain.book(tour, guests)};
    }

    private long[] leave(int tour, int guests) {
        call = "leave(" + tour + ", " + guests + ")";
        return new long[] {x.leave(tour, guests), plain.leave(tour, guests)};
    }

    private long[] lead(int guide, int tour) {
        call = "lead(" + guide + ", " + tour + ")";
        return new long[] {x.lead(guide, tour), plain.lead(guide, tour)};
    }

    private long[] leadBest(int tour) {
        return lead(Math.max(0, plain.bestGuide(tour)), tour);
    }

    private long[] release(int guide, int tour) {
        call = "release(" + guide + ", " + tour + ")";
        return new long[] {x.release(guide, tour), plain.release(guide, tour)};
    }

    private long[] merge(int tour, int into) {
        call = "merge(" + tour + ", " + into + ")";
        return new long[] {x.merge(tour, into), plain.merge(tour, into)};
    }

    private long[] cancel(int tour) {
        call = "cancel(" + tour + ")";
        return new long[] {x.cancel(tour), plain.cancel(tour)};
    }

    private long[] pass(int days) {
        call = "pass(" + days + ")";
        return new long[] {x.pass(days), plain.pass(days)};
    }

    private long[] typeMark() {
        char mark = MARKS.charAt(random.nextInt(MARKS.length()));
        call = "type(" + (int) mark + ")";
        return new long[] {x.type(mark), plain.type(mark)};
    }

    private long[] perform() {
        if (random.nextInt(8) > 0) {
            calls++;
            Checks.due("clearText()", x.clearText(), plain.clearText());
            typeCommand();
        }
        call = "perform()";
        return new long[] {x.perform(), plain.perform()};
    }

    private void typeCommand() {
        String word = WORDS[random.nextInt(random.nextInt(4) == 0 ? WORDS.length : 5)];
        StringBuilder text = new StringBuilder(word);
        text.append(' ').append(word.equals("lead") ? aGuide() : aTour());
        if (!word.equals("cancel") || random.nextInt(9) == 0) {
            text.append(' ').append(word.equals("book") || word.equals("leave") ? pick(1, 12) : aTour());
        }
        if (random.nextInt(4) == 0) {
            text.setCharAt(random.nextInt(text.length()), MARKS.charAt(random.nextInt(MARKS.length())));
        }
        calls += text.length();
        for (int i = 0; i < text.length(); i++) {
            Checks.due("type()", x.type(text.charAt(i)), plain.type(text.charAt(i)));
        }
    }

    private long[] undo() {
        call = "undo()";
        return new long[] {x.undo(), plain.undo()};
    }

    private long[] keep() {
        call = "keep()";
        return new long[] {x.keep(), plain.keep()};
    }

    private long[] restore() {
        call = "restore()";
        return new long[] {x.restore(), plain.restore()};
    }

    private long[] ask() {
        switch (random.nextInt(8)) {
            case 0:
                return guide(aGuide(), pick(0, 5));
            case 1:
            case 2:
                return tour(aTour(), pick(0, 10));
            case 3:
                return rope(aTour(), pick(0, 4), pick(0, 2));
            case 4:
                return holds(aTour(), aBridge());
            case 5:
                return bestGuide(aTour());
            case 6:
                return takes(pick(1, 3), aGuide());
            default:
                return random.nextInt(9) == 0 ? temperature() : count(pick(0, 12));
        }
    }

    private long[] guide(int guide, int what) {
        call = "guide(" + guide + ", " + what + ")";
        return new long[] {x.guide(guide, what), plain.guide(guide, what)};
    }

    private long[] tour(int tour, int what) {
        call = "tour(" + tour + ", " + what + ")";
        return new long[] {x.tour(tour, what), plain.tour(tour, what)};
    }

    private long[] rope(int tour, int place, int what) {
        call = "rope(" + tour + ", " + place + ", " + what + ")";
        return new long[] {x.rope(tour, place, what), plain.rope(tour, place, what)};
    }

    private long[] holds(int tour, int bridge) {
        call = "holds(" + tour + ", " + bridge + ")";
        return new long[] {x.holds(tour, bridge), plain.holds(tour, bridge)};
    }

    private long[] bestGuide(int tour) {
        call = "bestGuide(" + tour + ")";
        return new long[] {x.bestGuide(tour), plain.bestGuide(tour)};
    }

    private long[] takes(int kind, int guide) {
        call = "takes(" + kind + ", " + guide + ")";
        return new long[] {x.takes(kind, guide), plain.takes(kind, guide)};
    }

    private long[] count(int what) {
        call = "count(" + what + ")";
        return new long[] {x.count(what), plain.count(what)};
    }

    private long[] temperature() {
        call = "temperature()";
        return new long[] {x.temperature(), plain.temperature()};
    }

    private double[] askNumber() {
        int which = random.nextInt(3);
        int bridge = aBridge();
        int days = pick(0, 30);
        int tour = aTour();
        if (which == 0) {
            call = "thickness(" + bridge + ")";
            return new double[] {x.thickness(bridge), plain.thickness(bridge)};
        }
        if (which == 1) {
            call = "foretold(" + bridge + ", " + days + ")";
            return new double[] {x.foretold(bridge, days), plain.foretold(bridge, days)};
        }
        call = "needed(" + tour + ")";
        return new double[] {x.needed(tour), plain.needed(tour)};
    }
}
