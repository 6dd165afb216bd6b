/** Compares answers with those that are due, prints each that differs, and ends the test. */
final class Checks {
    private static int made = 0;
    private static int wrong = 0;
    private static String test = "";

    private Checks() {
    }

    /** Begins a test with this name, which is told with each answer that is not as due. */
    static void begin(String name) {
        test = name;
    }

    static void due(String call, long got, long want) {
        made++;
        if (got != want) {
            report(call, Long.toString(got), Long.toString(want));
        }
    }

    /** Compares doubles by their bits, so that 0.0 and -0.0 differ and a NaN is equal to a NaN. */
    static void dueNumber(String call, double got, double want) {
        made++;
        if (Double.doubleToLongBits(got) != Double.doubleToLongBits(want)) {
            report(call, Double.toString(got), Double.toString(want));
        }
    }

    static void dueText(String call, String got, String want) {
        made++;
        if (!got.equals(want)) {
            reportFirstLine(call, got.split("\n"), want.split("\n"));
        }
    }

    private static void reportFirstLine(String call, String[] got, String[] want) {
        int line = 0;
        while (line < got.length && line < want.length && got[line].equals(want[line])) {
            line++;
        }
        report(call, line < got.length ? got[line] : "no more", line < want.length ? want[line] : "no more");
    }

    private static void report(String call, String got, String want) {
        wrong++;
        if (wrong <= 50) {
            String name = test.isEmpty() ? "" : "[" + test + "] ";
            System.out.println(name + call + " answered " + got + ", due is " + want);
        }
    }

    static int madeSoFar() {
        return made;
    }

    static int wrongSoFar() {
        return wrong;
    }

    /** Ends the program with exit code 1 if an answer was wrong, or none was looked at. */
    static void end() {
        System.out.println(made + " answers looked at, " + wrong + " not as due");
        if (wrong != 0 || made == 0) {
            System.exit(1);
        }
    }

    static long bits(double number) {
        return Double.doubleToRawLongBits(number);
    }

    static void type(GlacierGuides office, String text) {
        office.clearText();
        for (int i = 0; i < text.length(); i++) {
            office.type(text.charAt(i));
        }
    }

    static int perform(GlacierGuides office, String text) {
        type(office, text);
        return office.perform();
    }

    /**
     * All of the state that an object tells, a line for each call that is made for it. They are few, for an
     * object is used for at most 512 calls.
     */
    static String told(GlacierGuides office) {
        StringBuilder all = new StringBuilder();
        int[] counts = new int[11];
        for (int what = 0; what <= 10; what++) {
            counts[what] = office.count(what);
            all.append("count ").append(what).append('=').append(counts[what]).append('\n');
        }
        all.append("temperature=").append(office.temperature()).append('\n');
        for (int guide = 0; guide < counts[1]; guide++) {
            for (int what = 0; what <= 5; what++) {
                all.append("guide ").append(guide).append(' ').append(what).append('=')
                    .append(office.guide(guide, what)).append('\n');
            }
        }
        for (int bridge = 0; bridge < counts[2]; bridge++) {
            all.append("bridge ").append(bridge).append('=').append(bits(office.thickness(bridge))).append('\n');
        }
        for (int tour = 0; tour < counts[3]; tour++) {
            tellTour(office, tour, all);
        }
        return all.toString();
    }

    private static void tellTour(GlacierGuides office, int tour, StringBuilder all) {
        int row = 0;
        for (int what = 0; what <= 10; what++) {
            int answer = office.tour(tour, what);
            row = what == 4 ? answer : row;
            all.append("tour ").append(tour).append(' ').append(what).append('=').append(answer).append('\n');
        }
        all.append("needed ").append(tour).append('=').append(office.needed(tour)).append('\n');
        for (int place = 0; place < row; place++) {
            for (int what = 0; what <= 2; what += 2) {
                all.append("rope ").append(tour).append(' ').append(place).append(' ').append(what).append('=')
                    .append(office.rope(tour, place, what)).append('\n');
            }
        }
    }

    /** Looks that a call has changed nothing, not even the history. */
    static void unchanged(GlacierGuides office, String before, int states, int length, String call) {
        dueText(call + " changes the state", told(office), before);
        due(call + " changes the history", office.count(11), states);
        due(call + " changes the text", office.count(12), length);
    }
}
