/** The boundary cases of promises 1 to 13: a new object, and the acts. */
final class ActsBounds extends Bounds {
    private static final String[] WILD = {"MIN", "-2147483647", "-256", "-1", "256", "65536", "2147483646", "MAX"};
    private static final String[] NO_NUMBERS = {"NaN", "Infinity", "-Infinity", "0x7FF0000000000001",
        "0xFFF0000000000001", "0x7FFFFFFFFFFFFFFF", "0xFFFFFFFFFFFFFFFF"};
    private static final String TOUR = "addTour(20, 0.0, 10, 0)";

    private ActsBounds() {
    }

    static void tests() {
        newObject();
        addGuide();
        renew();
        addBridge();
        setTemperature();
        addTour();
        addTourErrors();
        book();
        bookErrors();
        leave();
        lead();
        leadErrors();
        release();
        merge();
        mergeErrors();
        cancel();
        pass();
    }

    // The call is written with a # where each value stands; with each of them it is refused so.
    private static void refusedWithEach(String[] values, String scene, String row) {
        for (String value : values) {
            refused(scene, row.replace("#", value));
        }
    }

    private static void newObject() {
        in("Promise 1: A new object");
        sentence("Creates an office without guides, bridges and tours.", () -> {
            for (int what = 0; what <= 12; what++) {
                tells("", "count(" + what + ") -> 0");
            }
            tells("", "guide(0, 0) -> UNKNOWN");
            tells("", "tour(0, 0) -> UNKNOWN");
            tells("", "thickness(0) -> NaN");
            tells("", "temperature() -> 0.0");
            refused("", "undo() -> NONE");
            refused("", "restore() -> NONE");
            Office other = Office.after("");
            Office.after("addGuide(1, 1); addBridge(1.0); " + TOUR + "; pass(1); keep(); 'a'");
            Checks.dueText("an object that others leave alone", other.state(), Office.after("").state());
        });
    }

    private static void addGuide() {
        in("Promise 2: addGuide");
        sentence("Adds a guide. This is an act.", () -> acts("addGuide(1, 5)", "addGuide(2, 7) -> 1"));
        sentence("`kind`: the class of the certificate, 1 to 3", () -> {
            refused("", "addGuide(0, 5) -> BAD_VALUE");
            acts("", "addGuide(1, 5) -> 0");
            acts("", "addGuide(3, 5) -> 0");
            refused("", "addGuide(4, 5) -> BAD_VALUE");
            refusedWithEach(WILD, "", "addGuide(#, 5) -> BAD_VALUE");
        });
        sentence("`until`: 0 to 999: the last day on which it is valid", () -> {
            refused("", "addGuide(1, -1) -> BAD_VALUE");
            acts("", "addGuide(1, 0) -> 0");
            acts("", "addGuide(1, 999) -> 0");
            refused("", "addGuide(1, 1000) -> BAD_VALUE");
            refusedWithEach(new String[] {"MIN", "65536", "MAX"}, "", "addGuide(1, #) -> BAD_VALUE");
            rows("addGuide(1, 0); addGuide(1, 999); guide(0, 1) -> 0; guide(1, 1) -> 999; guide(0, 2) -> 1; pass(1); "
                + "guide(0, 2) -> 0; guide(1, 2) -> 1");
            // A day that has passed is none that is out of range.
            acts("pass(9)", "addGuide(1, 3) -> 0");
        });
        sentence("Returns the guide's number", () ->
            rows("addGuide(1, 5) -> 0; addGuide(4, 5) -> BAD_VALUE; addGuide(1, 5) -> 1; undo(); addGuide(1, 5) -> 1"));
        sentence("BAD_VALUE", () -> refused("", "addGuide(0, -1) -> BAD_VALUE"));
        sentence("FULL if there are 8.", () -> {
            acts("7 x addGuide(1, 5)", "addGuide(3, 999) -> 7");
            refused("8 x addGuide(1, 5)", "addGuide(3, 999) -> FULL");
            refused("8 x addGuide(1, 5)", "addGuide(1, 5) -> FULL");
        });
        order("BAD_VALUE; FULL", () -> {
            refused("8 x addGuide(1, 5)", "addGuide(4, 5) -> BAD_VALUE");
            refused("8 x addGuide(1, 5)", "addGuide(1, 1000) -> BAD_VALUE");
        });
    }

    private static void renew() {
        in("Promise 3: renew");
        String scene = "addGuide(1, 5); addGuide(2, 6)";
        sentence("Renews the certificate of a guide. This is an act.", () -> {
            acts(scene, "renew(1, 3, 7) -> 6");
            rows(scene + "; renew(1, 3, 7); guide(1, 0) -> 3; guide(1, 1) -> 7; guide(0, 0) -> 1; guide(0, 1) -> 5");
        });
        sentence("`guide`: a guide", () -> {
            refused(scene, "renew(-1, 3, 7) -> UNKNOWN");
            acts(scene, "renew(0, 3, 7) -> 5");
            acts(scene, "renew(1, 3, 7) -> 6");
            refused(scene, "renew(2, 3, 7) -> UNKNOWN");
        });
        sentence("`kind`: the class, 1 to 3", () -> {
            refused(scene, "renew(1, 0, 7) -> BAD_VALUE");
            acts(scene, "renew(1, 1, 6) -> 6");
            acts(scene, "renew(1, 3, 6) -> 6");
            refused(scene, "renew(1, 4, 7) -> BAD_VALUE");
            refusedWithEach(WILD, scene, "renew(1, #, 7) -> BAD_VALUE");
        });
        sentence("`until`: 0 to 999", () -> {
            refused(scene, "renew(1, 2, -1) -> BAD_VALUE");
            acts(scene, "renew(1, 2, 0) -> 6");
            acts(scene, "renew(1, 2, 999) -> 6");
            refused(scene, "renew(1, 2, 1000) -> BAD_VALUE");
            refusedWithEach(new String[] {"MIN", "65536", "MAX"}, scene, "renew(1, 2, #) -> BAD_VALUE");
        });
        sentence("Returns the day up to which the former one was valid", () ->
            rows("addGuide(1, 0); renew(0, 1, 999) -> 0; renew(0, 2, 999) -> 999; renew(0, 2, 0) -> 999"));
        sentence("UNKNOWN", () -> {
            refused("", "renew(0, 1, 5) -> UNKNOWN");
            refused("8 x addGuide(1, 5)", "renew(8, 2, 5) -> UNKNOWN");
            refusedWithEach(WILD, scene, "renew(#, 3, 7) -> UNKNOWN");
        });
        sentence("BAD_VALUE", () -> refused(scene, "renew(0, 4, 1000) -> BAD_VALUE"));
        sentence("NONE if both are so already.", () -> {
            refused(scene, "renew(0, 1, 5) -> NONE");
            acts(scene, "renew(0, 2, 5) -> 5");
            acts(scene, "renew(0, 1, 6) -> 5");
            refused(scene + "; renew(0, 3, 9)", "renew(0, 3, 9) -> NONE");
            refused(scene + "; renew(0, 3, 9); undo()", "renew(0, 1, 5) -> NONE");
        });
        order("UNKNOWN; BAD_VALUE; NONE", () -> {
            refused(scene, "renew(2, 4, 5) -> UNKNOWN");
            refused(scene, "renew(2, 1, 1000) -> UNKNOWN");
        });
    }

    private static void addBridge() {
        in("Promise 4: addBridge");
        sentence("Adds a bridge. This is an act.", () -> acts("addBridge(1.0)", "addBridge(2.0) -> 1"));
        sentence("`bits`: the bits of its thickness, as told by Double.doubleToRawLongBits", () -> {
            rows("addBridge(0x0000000000000001) -> 0; thickness(0) -> 4.9E-324");
            rows("addBridge(0x3FF0000000000000) -> 0; thickness(0) -> 1.0");
            rows("addBridge(0x407F3FFFFFFFFFFF) -> 0; thickness(0) -> 500.0-");
            rows("addBridge(0x000FFFFFFFFFFFFF) -> 0; thickness(0) -> 2.225073858507201E-308");
            rows("addBridge(0x0010000000000000) -> 0; thickness(0) -> 2.2250738585072014E-308");
        });
        sentence("Returns its number", () ->
            rows("addBridge(1.0) -> 0; addBridge(-1.0) -> BAD_VALUE; addBridge(1.0) -> 1; undo(); "
                + "addBridge(2.0) -> 1"));
        sentence("BAD_VALUE (no number", () -> refusedWithEach(NO_NUMBERS, "", "addBridge(#) -> BAD_VALUE"));
        sentence("or not from 0.0 to 500.0", () -> {
            acts("", "addBridge(0.0) -> 0");
            acts("", "addBridge(0.0+) -> 0");
            acts("", "addBridge(500.0) -> 0");
            String[] wrong = {"0.0-", "-1.0", "-500.0", "500.0+", "501.0", "1.7976931348623157E308",
                "-1.7976931348623157E308"};
            refusedWithEach(wrong, "", "addBridge(#) -> BAD_VALUE");
        });
        sentence("-0.0 is in no range)", () -> {
            refused("", "addBridge(-0.0) -> BAD_VALUE");
            refused("", "addBridge(0x8000000000000000) -> BAD_VALUE");
        });
        sentence("FULL if there are 6.", () -> {
            acts("5 x addBridge(1.0)", "addBridge(0.0) -> 5");
            refused("6 x addBridge(1.0)", "addBridge(0.0) -> FULL");
            refused("6 x addBridge(1.0)", "addBridge(500.0) -> FULL");
        });
        order("BAD_VALUE; FULL", () -> {
            refused("6 x addBridge(1.0)", "addBridge(500.0+) -> BAD_VALUE");
            refused("6 x addBridge(1.0)", "addBridge(-0.0) -> BAD_VALUE");
        });
    }

    private static void setTemperature() {
        in("Promise 5: setTemperature");
        sentence("Sets the temperature. This is an act.", () -> {
            acts("addBridge(10.0)", "setTemperature(2.0) -> 1");
            acts("addBridge(10.0); setTemperature(2.0)", "setTemperature(0.0) -> 1");
        });
        sentence("`bits`: the bits of the temperature", () -> {
            String[] numbers = {"30.0", "30.0-", "0.0+", "0.0-", "-40.0", "-40.0+", "0.1", "-0.1", "-1.0"};
            for (String number : numbers) {
                rows("setTemperature(" + number + ") -> 1; temperature() -> " + number);
            }
        });
        sentence("Returns 1", () -> rows("setTemperature(30.0) -> 1; setTemperature(-40.0) -> 1; "
            + "setTemperature(0.0) -> 1"));
        sentence("BAD_VALUE (no number", () -> refusedWithEach(NO_NUMBERS, "", "setTemperature(#) -> BAD_VALUE"));
        sentence("or not from -40.0 to 30.0)", () -> {
            acts("", "setTemperature(-40.0) -> 1");
            acts("", "setTemperature(30.0) -> 1");
            String[] wrong = {"-40.0-", "-41.0", "30.0+", "31.0", "40.0", "-1.7976931348623157E308",
                "1.7976931348623157E308"};
            refusedWithEach(wrong, "setTemperature(30.0)", "setTemperature(#) -> BAD_VALUE");
            acts("", "setTemperature(-30.0-) -> 1");
        });
        sentence("NONE if it is equal to the one that is set (-0.0 is equal to 0.0;", () -> {
            refused("", "setTemperature(0.0) -> NONE");
            refused("", "setTemperature(-0.0) -> NONE");
            rows("setTemperature(-0.0) -> NONE; temperature() -> 0.0");
            refused("setTemperature(1.0); setTemperature(-0.0)", "setTemperature(0.0) -> NONE");
            refused("setTemperature(1.0); setTemperature(-0.0)", "setTemperature(-0.0) -> NONE");
            refused("setTemperature(2.5)", "setTemperature(2.5) -> NONE");
            acts("setTemperature(2.5)", "setTemperature(2.5+) -> 1");
            acts("setTemperature(2.5)", "setTemperature(-2.5) -> 1");
            refused("setTemperature(2.5); undo()", "setTemperature(0.0) -> NONE");
        });
        sentence("where another one is set, it is set with its own bits)", () -> {
            acts("setTemperature(1.0)", "setTemperature(-0.0) -> 1");
            rows("setTemperature(1.0); setTemperature(-0.0); temperature() -> -0.0; setTemperature(0.0) -> NONE; "
                + "temperature() -> -0.0; setTemperature(1.0); setTemperature(0.0); temperature() -> 0.0");
            rows("setTemperature(1.0); setTemperature(-0.0); keep(); setTemperature(2.0); undo(); "
                + "temperature() -> -0.0; "
                + "setTemperature(2.0); restore(); temperature() -> -0.0");
        });
    }

    private static void addTour() {
        in("Promise 6: addTour");
        sentence("Adds a tour without guests and guides. This is an act.", () -> {
            acts(TOUR, "addTour(9, 20.0, 5, 0) -> 1");
            rows("addGuide(2, 99); " + TOUR + "; book(0, 3); lead(0, 0); undo(); undo(); undo(); "
                + "addTour(9, 20.0, 5, 0); "
                + "tour(0, 3) -> 0; tour(0, 4) -> 0; tour(0, 5) -> 0; rope(0, 0, 0) -> NONE");
            // Nothing stays of a tour that bore its number, whatever became of that one.
            String told = "; tour(0, 0) -> 9; tour(0, 1) -> 5; tour(0, 3) -> 0; tour(0, 4) -> 0; tour(0, 5) -> 0; "
                + "tour(0, 6) -> 0; tour(0, 7) -> NONE; tour(0, 9) -> 5; guide(0, 3) -> NONE; cancel(0) -> 0; "
                + "tour(0, 7) -> 4";
            String former = "addGuide(2, 99); keep(); " + TOUR + "; book(0, 3); lead(0, 0)";
            rows(former + "; restore(); addTour(9, 20.0, 5, 0)" + told);
            rows(former + "; cancel(0); restore(); addTour(9, 20.0, 5, 0)" + told);
            rows(former + "; pass(21); restore(); addTour(9, 20.0, 5, 0)" + told);
            rows(former + "; " + TOUR + "; merge(0, 1); restore(); addTour(9, 20.0, 5, 0)" + told);
        });
        sentence("`day`: the day, today or later, at most 999", () -> {
            refused("", "addTour(-1, 0.0, 1, 0) -> BAD_VALUE");
            acts("", "addTour(0, 0.0, 1, 0) -> 0");
            refused("pass(9)", "addTour(8, 0.0, 1, 0) -> BAD_VALUE");
            acts("pass(9)", "addTour(9, 0.0, 1, 0) -> 0");
            acts("", "addTour(999, 0.0, 1, 0) -> 0");
            refused("", "addTour(1000, 0.0, 1, 0) -> BAD_VALUE");
            String late = "33 x pass(30); pass(9)";
            acts(late, "addTour(999, 0.0, 1, 0) -> 0");
            refused(late, "addTour(998, 0.0, 1, 0) -> BAD_VALUE");
            refused(late + "; pass(1)", "addTour(999, 0.0, 1, 0) -> BAD_VALUE");
            refused(late + "; pass(1)", "addTour(1000, 0.0, 1, 0) -> BAD_VALUE");
            refusedWithEach(new String[] {"MIN", "65536", "MAX"}, "", "addTour(#, 0.0, 1, 0) -> BAD_VALUE");
        });
        sentence("`slope`: the bits of its slope", () -> {
            rows("addTour(0, 0x0000000000000001, 1, 0) -> 0; tour(0, 9) -> 7");
            rows("addTour(0, 0x402DFFFFFFFFFFFF, 1, 0) -> 0; tour(0, 9) -> 7");
            rows("addTour(0, 0x402E000000000000, 1, 0) -> 0; tour(0, 9) -> 5");
            rows("addTour(0, 0x404E000000000000, 1, 0) -> 0; tour(0, 9) -> 1");
        });
        sentence("`price`: 1 to 9999", () -> {
            refused("", "addTour(0, 0.0, 0, 0) -> BAD_VALUE");
            rows("addTour(0, 0.0, 1, 0) -> 0; tour(0, 1) -> 1");
            rows("addTour(0, 0.0, 9999, 0) -> 0; tour(0, 1) -> 9999");
            refused("", "addTour(0, 0.0, 10000, 0) -> BAD_VALUE");
        });
        sentence("`bridges`: a bit set of bridges that there are", () -> {
            acts("", "addTour(0, 0.0, 1, 0) -> 0");
            refused("", "addTour(0, 0.0, 1, 1) -> BAD_VALUE");
            for (int there = 1; there <= 6; there++) {
                String scene = there + " x addBridge(9.0)";
                acts(scene, "addTour(0, 0.0, 1, " + ((1 << there) - 1) + ") -> 0");
                acts(scene, "addTour(0, 0.0, 1, " + (1 << there - 1) + ") -> 0");
                refused(scene, "addTour(0, 0.0, 1, " + (1 << there) + ") -> BAD_VALUE");
                refused(scene, "addTour(0, 0.0, 1, " + ((1 << there) + 1) + ") -> BAD_VALUE");
            }
        });
    }

    private static void addTourErrors() {
        sentence("Returns its number", () ->
            rows(TOUR + " -> 0; addTour(0, 0.0, 0, 0) -> BAD_VALUE; " + TOUR + " -> 1; undo(); " + TOUR + " -> 1"));
        sentence("BAD_VALUE (day", () ->
            refusedWithEach(new String[] {"-1", "1000"}, "", "addTour(#, 0.0, 1, 0) -> BAD_VALUE"));
        sentence("the slope is no number", () -> refusedWithEach(NO_NUMBERS, "", "addTour(0, #, 1, 0) -> BAD_VALUE"));
        sentence("or not from 0.0 to 60.0", () -> {
            acts("", "addTour(0, 0.0, 1, 0) -> 0");
            acts("", "addTour(0, 0.0+, 1, 0) -> 0");
            acts("", "addTour(0, 60.0, 1, 0) -> 0");
            String[] wrong = {"0.0-", "-1.0", "-60.0", "60.0+", "61.0", "1.7976931348623157E308",
                "-1.7976931348623157E308"};
            refusedWithEach(wrong, "", "addTour(0, #, 1, 0) -> BAD_VALUE");
        });
        sentence("or -0.0", () -> refused("", "addTour(0, -0.0, 1, 0) -> BAD_VALUE"));
        sentence("price;", () -> refusedWithEach(new String[] {"MIN", "-1", "0", "10000", "MAX"}, "",
            "addTour(0, 0.0, #, 0) -> BAD_VALUE"));
        sentence("bridges)", () -> {
            String[] wrong = {"64", "65", "127", "256", "-1", "-64", "MIN", "MAX", "1073741824"};
            refusedWithEach(wrong, "6 x addBridge(9.0)", "addTour(0, 0.0, 1, #) -> BAD_VALUE");
            refusedWithEach(wrong, "", "addTour(0, 0.0, 1, #) -> BAD_VALUE");
        });
        sentence("FULL if there are 10.", () -> {
            acts("9 x " + TOUR, "addTour(999, 60.0, 9999, 0) -> 9");
            refused("10 x " + TOUR, "addTour(999, 60.0, 9999, 0) -> FULL");
            refused("10 x " + TOUR + "; cancel(0)", TOUR + " -> FULL");
            refused("10 x " + TOUR + "; merge(0, 1)", TOUR + " -> FULL");
            refused("10 x " + TOUR + "; pass(21)", "addTour(21, 0.0, 1, 0) -> FULL");
        });
        order("BAD_VALUE; FULL", () -> {
            String[] wrong = {"-1, 0.0, 1, 0", "0, -0.0, 1, 0", "0, 0.0, 0, 0", "0, 0.0, 1, 1"};
            refusedWithEach(wrong, "10 x " + TOUR, "addTour(#) -> BAD_VALUE");
        });
    }

    private static void book() {
        in("Promise 7: book");
        sentence("Books guests. This is an act.", () -> {
            acts(TOUR + "; book(0, 2)", "book(0, 3) -> 30");
            rows(TOUR + "; book(0, 2); book(0, 3); tour(0, 3) -> 5; tour(0, 5) -> 50");
        });
        sentence("`tour`: a tour", () -> {
            refused("3 x " + TOUR, "book(-1, 1) -> UNKNOWN");
            acts("3 x " + TOUR, "book(0, 1) -> 10");
            acts("3 x " + TOUR, "book(2, 1) -> 10");
            refused("3 x " + TOUR, "book(3, 1) -> UNKNOWN");
        });
        sentence("`guests`: 1 to 12", () -> {
            refused(TOUR, "book(0, 0) -> BAD_VALUE");
            acts(TOUR, "book(0, 1) -> 10");
            acts(TOUR, "book(0, 12) -> 120");
            refused(TOUR, "book(0, 13) -> BAD_VALUE");
            refusedWithEach(WILD, TOUR, "book(0, #) -> BAD_VALUE");
            refusedWithEach(WILD, TOUR + "; book(0, 12)", "book(0, #) -> BAD_VALUE");
        });
        sentence("Returns what is paid for them", () ->
            rows("addTour(5, 0.0, 9999, 0); addTour(5, 0.0, 1, 0); book(0, 5) -> 49995; book(0, 7) -> 69993; "
                + "book(1, 11) -> 11; book(1, 1) -> 1"));
    }

    private static void bookErrors() {
        sentence("UNKNOWN", () -> {
            refused("", "book(0, 1) -> UNKNOWN");
            refused("10 x " + TOUR, "book(10, 1) -> UNKNOWN");
            refusedWithEach(WILD, TOUR, "book(#, 1) -> UNKNOWN");
        });
        sentence("BAD_VALUE", () -> refused(TOUR, "book(0, 13) -> BAD_VALUE"));
        sentence("NOT_POSSIBLE if it is not open", () -> {
            refused(TOUR + "; cancel(0)", "book(0, 1) -> NOT_POSSIBLE");
            refused("2 x " + TOUR + "; merge(0, 1)", "book(0, 1) -> NOT_POSSIBLE");
            refused("addGuide(2, 30); " + TOUR + "; book(0, 1); lead(0, 0); "
                + "pass(21) -> 1", "book(0, 1) -> NOT_POSSIBLE");
            acts("2 x " + TOUR + "; merge(0, 1)", "book(1, 1) -> 10");
            acts(TOUR + "; pass(20)", "book(0, 1) -> 10");
        });
        sentence("FULL if it would have more than 12.", () -> {
            for (int there = 1; there <= 11; there++) {
                acts(TOUR + "; book(0, " + there + ")", "book(0, " + (12 - there) + ") -> " + 10 * (12 - there));
                refused(TOUR + "; book(0, " + there + ")", "book(0, " + (13 - there) + ") -> FULL");
            }
            refused(TOUR + "; book(0, 12)", "book(0, 1) -> FULL");
            refused(TOUR + "; book(0, 12)", "book(0, 12) -> FULL");
        });
        order("UNKNOWN; BAD_VALUE; NOT_POSSIBLE; FULL", () -> {
            String full = TOUR + "; book(0, 12)";
            refused(full, "book(1, 13) -> UNKNOWN");
            refused(full, "book(0, 13) -> BAD_VALUE");
            refused(full + "; cancel(0)", "book(0, 0) -> BAD_VALUE");
            refused(full + "; cancel(0)", "book(0, 1) -> NOT_POSSIBLE");
        });
    }

    private static void leave() {
        in("Promise 8: leave");
        String scene = TOUR + "; book(0, 5)";
        sentence("Lets guests leave a tour. This is an act.", () -> {
            acts(scene, "leave(0, 2) -> 20");
            rows(scene + "; leave(0, 2); tour(0, 3) -> 3; tour(0, 5) -> 30; count(9) -> 20");
        });
        sentence("`tour`: a tour", () -> {
            String three = "3 x " + TOUR + "; book(0, 5); book(2, 5)";
            refused(three, "leave(-1, 1) -> UNKNOWN");
            acts(three, "leave(0, 1) -> 10");
            acts(three, "leave(2, 1) -> 10");
            refused(three, "leave(3, 1) -> UNKNOWN");
        });
        sentence("`guests`: 1 to 12", () -> {
            refused(scene, "leave(0, 0) -> BAD_VALUE");
            acts(scene, "leave(0, 1) -> 10");
            acts(TOUR + "; book(0, 12)", "leave(0, 12) -> 120");
            refused(TOUR + "; book(0, 12)", "leave(0, 13) -> BAD_VALUE");
            refusedWithEach(WILD, scene, "leave(0, #) -> BAD_VALUE");
        });
        sentence("Returns what is refunded", () ->
            rows("addTour(13, 0.0, 9999, 0); book(0, 12); leave(0, 1) -> 7499; leave(0, 11) -> 84366; "
                + "tour(0, 5) -> 28123"));
        sentence("UNKNOWN", () -> {
            refused("", "leave(0, 1) -> UNKNOWN");
            refused("10 x " + TOUR, "leave(10, 1) -> UNKNOWN");
            refusedWithEach(WILD, scene, "leave(#, 1) -> UNKNOWN");
        });
        sentence("BAD_VALUE", () -> refused(scene, "leave(0, 13) -> BAD_VALUE"));
        sentence("NOT_POSSIBLE if it is not open", () -> {
            refused(scene + "; cancel(0)", "leave(0, 1) -> NOT_POSSIBLE");
            refused(scene + "; " + TOUR + "; merge(0, 1)", "leave(0, 1) -> NOT_POSSIBLE");
            refused("addGuide(2, 30); " + scene + "; lead(0, 0); pass(21) -> 1", "leave(0, 1) -> NOT_POSSIBLE");
        });
        sentence("or has not so many.", () -> {
            acts(scene, "leave(0, 5) -> 50");
            refused(scene, "leave(0, 6) -> NOT_POSSIBLE");
            refused(scene, "leave(0, 12) -> NOT_POSSIBLE");
            refused(TOUR, "leave(0, 1) -> NOT_POSSIBLE");
            refused(scene + "; leave(0, 5)", "leave(0, 1) -> NOT_POSSIBLE");
        });
        order("UNKNOWN; BAD_VALUE; NOT_POSSIBLE", () -> {
            refused(scene, "leave(1, 13) -> UNKNOWN");
            refused(scene, "leave(0, 13) -> BAD_VALUE");
            refused(scene + "; cancel(0)", "leave(0, 0) -> BAD_VALUE");
        });
    }

    private static void lead() {
        in("Promise 9: lead");
        String scene = "addGuide(1, 30); addGuide(2, 30); addGuide(3, 30); 3 x " + TOUR;
        sentence("Makes a guide the last one in the row of a tour. This is an act.", () -> {
            acts(scene + "; lead(2, 1)", "lead(0, 1) -> 6");
            rows(scene + "; lead(2, 1); lead(0, 1); lead(1, 1); rope(1, 0, 0) -> 2; rope(1, 1, 0) -> 0; "
                + "rope(1, 2, 0) -> 1; "
                + "tour(1, 4) -> 3; release(2, 1); lead(2, 1); rope(1, 0, 0) -> 0; rope(1, 2, 0) -> 2");
        });
        sentence("`guide`: a guide", () -> {
            refused(scene, "lead(-1, 0) -> UNKNOWN");
            acts(scene, "lead(0, 0) -> 6");
            acts(scene, "lead(2, 0) -> 8");
            refused(scene, "lead(3, 0) -> UNKNOWN");
        });
        sentence("`tour`: a tour", () -> {
            refused(scene, "lead(0, -1) -> UNKNOWN");
            acts(scene, "lead(0, 0) -> 6");
            acts(scene, "lead(0, 2) -> 6");
            refused(scene, "lead(0, 3) -> UNKNOWN");
        });
        sentence("Returns the ratio of the guide on it", () -> {
            acts("addGuide(1, 30); addTour(5, 60.0, 1, 0)", "lead(0, 0) -> 1");
            acts("addGuide(2, 30); addTour(5, 60.0, 1, 0)", "lead(0, 0) -> 1");
            acts("addGuide(3, 30); addTour(5, 60.0, 1, 0)", "lead(0, 0) -> 2");
            acts("addGuide(3, 30); addTour(5, 0.0, 1, 0)", "lead(0, 0) -> 8");
        });
    }

    private static void leadErrors() {
        String scene = "5 x addGuide(2, 30); 3 x " + TOUR;
        sentence("UNKNOWN (guide or tour)", () -> {
            refused(TOUR, "lead(0, 0) -> UNKNOWN");
            refused("addGuide(2, 30)", "lead(0, 0) -> UNKNOWN");
            refusedWithEach(WILD, scene, "lead(#, 0) -> UNKNOWN");
            refusedWithEach(WILD, scene, "lead(0, #) -> UNKNOWN");
        });
        sentence("NOT_POSSIBLE if the tour is not open", () -> {
            refused(scene + "; cancel(0)", "lead(0, 0) -> NOT_POSSIBLE");
            refused(scene + "; merge(0, 1)", "lead(0, 0) -> NOT_POSSIBLE");
            refused(scene + "; book(0, 1); lead(1, 0); pass(21) -> 1", "lead(0, 0) -> NOT_POSSIBLE");
            acts(scene + "; pass(20)", "lead(0, 0) -> 7");
        });
        sentence("the certificate is not valid on its day", () -> {
            acts("addGuide(2, 20); " + TOUR, "lead(0, 0) -> 7");
            refused("addGuide(2, 19); " + TOUR, "lead(0, 0) -> NOT_POSSIBLE");
            acts("addGuide(2, 19); addTour(19, 0.0, 1, 0)", "lead(0, 0) -> 7");
            acts("addGuide(2, 0); addTour(0, 0.0, 1, 0)", "lead(0, 0) -> 7");
            acts("addGuide(2, 999); addTour(999, 0.0, 1, 0)", "lead(0, 0) -> 7");
            acts("addGuide(2, 19); " + TOUR + "; renew(0, 2, 20)", "lead(0, 0) -> 7");
            refused("addGuide(2, 20); " + TOUR + "; renew(0, 2, 19)", "lead(0, 0) -> NOT_POSSIBLE");
        });
        sentence("or the guide is in the row of an open tour of the same day", () -> {
            refused(scene + "; lead(0, 0)", "lead(0, 0) -> NOT_POSSIBLE");
            refused(scene + "; lead(0, 0)", "lead(0, 1) -> NOT_POSSIBLE");
            refused(scene + "; lead(0, 2)", "lead(0, 1) -> NOT_POSSIBLE");
            acts(scene + "; lead(1, 0)", "lead(0, 1) -> 7");
            acts(scene + "; lead(0, 0); release(0, 0)", "lead(0, 1) -> 7");
            acts(scene + "; lead(0, 0); cancel(0)", "lead(0, 1) -> 7");
            refused(scene + "; lead(0, 0); merge(0, 1)", "lead(0, 2) -> NOT_POSSIBLE");
            acts("addGuide(2, 30); addTour(19, 0.0, 1, 0); addTour(20, 0.0, 1, 0); addTour(21, 0.0, 1, 0); lead(0, 0); "
                + "lead(0, 2)", "lead(0, 1) -> 7");
        });
        sentence("FULL if it has 4 guides.", () -> {
            String three = scene + "; lead(0, 0); lead(1, 0); lead(2, 0)";
            acts(three, "lead(3, 0) -> 7");
            refused(three + "; lead(3, 0)", "lead(4, 0) -> FULL");
            acts(three + "; lead(3, 0); release(0, 0)", "lead(4, 0) -> 7");
            acts(three + "; lead(3, 0)", "lead(4, 1) -> 7");
        });
        order("UNKNOWN (guide or tour); NOT_POSSIBLE; FULL", () -> {
            String full = "6 x addGuide(2, 30); addGuide(2, 19); 2 x " + TOUR + "; lead(0, 0); lead(1, 0); lead(2, 0); "
                + "lead(3, 0); lead(4, 1)";
            refused(full, "lead(7, 0) -> UNKNOWN");
            refused(full, "lead(6, 2) -> UNKNOWN");
            refused(full + "; cancel(0)", "lead(7, 0) -> UNKNOWN");
            refused(full, "lead(6, 0) -> NOT_POSSIBLE");
            refused(full, "lead(3, 0) -> NOT_POSSIBLE");
            refused(full, "lead(4, 0) -> NOT_POSSIBLE");
            refused(full, "lead(5, 0) -> FULL");
            refused(full + "; cancel(0)", "lead(5, 0) -> NOT_POSSIBLE");
        });
    }

    private static void release() {
        in("Promise 10: release");
        String scene = "3 x addGuide(2, 30); 2 x addTour(20, 30.0, 10, 0); book(0, 5); lead(0, 0); lead(1, 0)";
        sentence("Takes a guide out of the row of a tour. This is an act.", () -> {
            acts(scene, "release(0, 0) -> 2");
            rows(scene + "; release(0, 0); rope(0, 0, 0) -> 1; rope(0, 0, 2) -> 3; rope(0, 1, 0) -> NONE; "
                + "tour(0, 4) -> 1");
            rows(scene + "; release(1, 0); rope(0, 0, 0) -> 0; rope(0, 1, 0) -> NONE; release(0, 0); tour(0, 4) -> 0");
        });
        sentence("`guide`: a guide", () -> {
            refused(scene, "release(-1, 0) -> UNKNOWN");
            acts(scene, "release(0, 0) -> 2");
            refused(scene, "release(2, 0) -> NONE");
            refused(scene, "release(3, 0) -> UNKNOWN");
        });
        sentence("`tour`: a tour", () -> {
            refused(scene, "release(0, -1) -> UNKNOWN");
            refused(scene, "release(0, 1) -> NONE");
            refused(scene, "release(0, 2) -> UNKNOWN");
        });
        sentence("Returns how many guests are left over then", () -> {
            acts(scene + "; leave(0, 2)", "release(1, 0) -> 0");
            acts(scene + "; leave(0, 1)", "release(1, 0) -> 1");
            acts(scene + "; release(0, 0)", "release(1, 0) -> 5");
            acts(scene + "; lead(2, 0)", "release(0, 0) -> 0");
            acts("addGuide(2, 30); " + TOUR + "; lead(0, 0)", "release(0, 0) -> 0");
        });
        sentence("UNKNOWN (guide or tour)", () -> {
            refused(TOUR, "release(0, 0) -> UNKNOWN");
            refused("addGuide(2, 30)", "release(0, 0) -> UNKNOWN");
            refusedWithEach(WILD, scene, "release(#, 0) -> UNKNOWN");
            refusedWithEach(WILD, scene, "release(0, #) -> UNKNOWN");
        });
        sentence("NOT_POSSIBLE if the tour is not open", () -> {
            refused(scene + "; cancel(0)", "release(0, 0) -> NOT_POSSIBLE");
            refused(scene + "; merge(0, 1)", "release(0, 0) -> NOT_POSSIBLE");
            refused(scene + "; pass(21) -> 1", "release(0, 0) -> NOT_POSSIBLE");
            acts(scene + "; pass(20)", "release(0, 0) -> 2");
        });
        sentence("NONE if the guide is not in its row.", () -> {
            refused(scene, "release(2, 0) -> NONE");
            refused(scene, "release(0, 1) -> NONE");
            refused(scene + "; release(0, 0)", "release(0, 0) -> NONE");
            refused(scene + "; release(0, 0); release(1, 0)", "release(1, 0) -> NONE");
        });
        order("UNKNOWN (guide or tour); NOT_POSSIBLE; NONE", () -> {
            refused(scene + "; cancel(0)", "release(3, 0) -> UNKNOWN");
            refused(scene + "; cancel(0)", "release(2, 0) -> NOT_POSSIBLE");
        });
    }

    private static void merge() {
        in("Promise 11: merge");
        String scene = "2 x addGuide(2, 30); addTour(20, 9.0, 10, 0); addTour(20, 9.0, 7, 0); book(0, 5); book(1, 4); "
            + "lead(0, 0); lead(1, 1)";
        sentence("Merges a tour into another one. This is an act.", () -> {
            acts(scene, "merge(0, 1) -> 15");
            acts(scene, "merge(1, 0) -> 0");
            rows(scene + "; merge(0, 1); tour(0, 6) -> 3; tour(0, 7) -> NONE; tour(1, 6) -> 0; tour(1, 3) -> 9; "
                + "tour(1, 5) -> 63; rope(1, 0, 0) -> 1; rope(1, 1, 0) -> 0; count(7) -> 1; guide(0, 3) -> 1");
        });
        sentence("`tour`: a tour", () -> {
            refused(scene, "merge(-1, 0) -> UNKNOWN");
            refused(scene, "merge(2, 0) -> UNKNOWN");
        });
        sentence("`into`: a tour", () -> {
            refused(scene, "merge(0, -1) -> UNKNOWN");
            refused(scene, "merge(0, 2) -> UNKNOWN");
        });
        sentence("Returns what is refunded", () -> {
            acts(scene + "; book(0, 3)", "merge(0, 1) -> 24");
            acts(scene + "; leave(0, 5)", "merge(0, 1) -> 0");
            rows(scene + "; merge(0, 1) -> 15; count(9) -> 15");
        });
    }

    private static void mergeErrors() {
        String scene = "2 x " + TOUR;
        sentence("UNKNOWN", () -> {
            refused("", "merge(0, 1) -> UNKNOWN");
            refused(TOUR, "merge(0, 1) -> UNKNOWN");
            refused(TOUR, "merge(1, 0) -> UNKNOWN");
            refusedWithEach(WILD, scene, "merge(#, 0) -> UNKNOWN");
            refusedWithEach(WILD, scene, "merge(0, #) -> UNKNOWN");
        });
        sentence("BAD_VALUE if both are the same", () -> {
            refused(scene, "merge(0, 0) -> BAD_VALUE");
            refused(scene, "merge(1, 1) -> BAD_VALUE");
            acts(scene, "merge(0, 1) -> 0");
        });
        sentence("NOT_POSSIBLE if they cannot be merged so.", () -> {
            refused("addTour(5, 0.0, 1, 0); addTour(6, 0.0, 1, 0)", "merge(0, 1) -> NOT_POSSIBLE");
            refused("addTour(5, 0.0, 1, 0); addTour(5, 0.0+, 1, 0)", "merge(0, 1) -> NOT_POSSIBLE");
            refused("addBridge(9.0); addTour(5, 0.0, 1, 0); addTour(5, 0.0, 1, 1)", "merge(0, 1) -> NOT_POSSIBLE");
            refused(scene + "; book(0, 12); book(1, 1)", "merge(0, 1) -> NOT_POSSIBLE");
            refused(scene + "; merge(0, 1)", "merge(0, 1) -> NOT_POSSIBLE");
        });
        order("UNKNOWN; BAD_VALUE if both are the same; NOT_POSSIBLE", () -> {
            refused(scene, "merge(2, 2) -> UNKNOWN");
            refused(scene, "merge(-1, -1) -> UNKNOWN");
            refused(scene + "; cancel(0)", "merge(0, 2) -> UNKNOWN");
            refused(scene + "; cancel(0)", "merge(0, 0) -> BAD_VALUE");
            refused(scene + "; book(0, 12)", "merge(0, 0) -> BAD_VALUE");
        });
    }

    private static void cancel() {
        in("Promise 12: cancel");
        String scene = "addGuide(2, 30); 2 x " + TOUR + "; book(0, 5); lead(0, 0)";
        sentence("Cancels an open tour (for the cause 4); what was paid for it is refunded, and its guides become free "
            + "(they stay in its row). This is an act.", () -> {
                acts(scene, "cancel(0) -> 50");
                rows(scene + "; cancel(0); tour(0, 6) -> 2; tour(0, 7) -> 4; tour(0, 5) -> 0; tour(0, 3) -> 5; "
                    + "tour(0, 4) -> 1; rope(0, 0, 0) -> 0; rope(0, 0, 2) -> 5; guide(0, 3) -> NONE; lead(0, 1) -> 7; "
                    + "count(9) -> 50; count(6) -> 1");
                rows(scene + "; cancel(0); pass(21); tour(0, 7) -> 4; tour(1, 7) -> 1; count(9) -> 50");
            });
        sentence("`tour`: a tour", () -> {
            refused(scene, "cancel(-1) -> UNKNOWN");
            acts(scene, "cancel(1) -> 0");
            refused(scene, "cancel(2) -> UNKNOWN");
        });
        sentence("Returns what is refunded", () -> {
            acts(scene + "; book(0, 7)", "cancel(0) -> 120");
            acts(scene + "; leave(0, 5)", "cancel(0) -> 0");
            acts(scene + "; pass(20); leave(0, 5) -> 0", "cancel(0) -> 50");
        });
        sentence("UNKNOWN", () -> {
            refused("", "cancel(0) -> UNKNOWN");
            refusedWithEach(WILD, scene, "cancel(#) -> UNKNOWN");
        });
        sentence("NOT_POSSIBLE if it is not open.", () -> {
            refused(scene + "; cancel(0)", "cancel(0) -> NOT_POSSIBLE");
            refused(scene + "; merge(0, 1)", "cancel(0) -> NOT_POSSIBLE");
            refused(scene + "; pass(21) -> 1", "cancel(0) -> NOT_POSSIBLE");
            refused(scene + "; pass(21) -> 1", "cancel(1) -> NOT_POSSIBLE");
            acts(scene + "; pass(20)", "cancel(0) -> 50");
        });
    }

    private static void pass() {
        in("Promise 13: pass");
        String led = "addGuide(2, 99); addTour(0, 0.0, 1, 0); addTour(1, 0.0, 1, 0); addTour(29, 0.0, 1, 0); "
            + "addTour(30, 0.0, 1, 0); book(0, 1); book(1, 1); book(2, 1); book(3, 1); lead(0, 0); lead(0, 1); "
            + "lead(0, 2); lead(0, 3)";
        sentence("Lets days pass, one after the other. This is an act.", () -> {
            acts(led, "pass(2) -> 2");
            // The bridge holds on the day of the first tour, and is too thin a day later.
            rows("addGuide(2, 99); addBridge(22.0); setTemperature(1.0); addTour(1, 0.0, 1, 1); addTour(2, 0.0, 1, 1); "
                + "book(0, 1); book(1, 1); lead(0, 0); lead(0, 1); pass(3) -> 1; tour(0, 6) -> 1; tour(1, 7) -> 2; "
                + "thickness(0) -> 17.5; count(0) -> 3; count(11) -> 5; undo(); count(0) -> 0; thickness(0) -> 22.0");
        });
        sentence("`days`: 1 to 30", () -> {
            refused(led, "pass(0) -> BAD_VALUE");
            acts(led, "pass(1) -> 1");
            acts(led, "pass(30) -> 3");
            refused(led, "pass(31) -> BAD_VALUE");
            rows("pass(30); count(0) -> 30");
        });
        sentence("Returns how many tours go in them", () -> {
            acts("", "pass(30) -> 0");
            acts(led, "pass(29) -> 2");
            acts(led + "; pass(30)", "pass(1) -> 1");
            acts(led + "; pass(30); pass(1)", "pass(1) -> 0");
            acts(led + "; cancel(1)", "pass(30) -> 2");
        });
        sentence("BAD_VALUE", () -> refusedWithEach(WILD, led, "pass(#) -> BAD_VALUE"));
        sentence("NOT_POSSIBLE if the day would become more than 1000.", () -> {
            acts("33 x pass(30)", "pass(10) -> 0");
            refused("33 x pass(30)", "pass(11) -> NOT_POSSIBLE");
            refused("33 x pass(30)", "pass(30) -> NOT_POSSIBLE");
            acts("33 x pass(30); pass(9)", "pass(1) -> 0");
            refused("33 x pass(30); pass(9)", "pass(2) -> NOT_POSSIBLE");
            refused("33 x pass(30); pass(10)", "pass(1) -> NOT_POSSIBLE");
            acts("32 x pass(30); pass(10)", "pass(30) -> 0");
            refused("32 x pass(30); pass(11)", "pass(30) -> NOT_POSSIBLE");
        });
        order("BAD_VALUE; NOT_POSSIBLE", () -> {
            refused("33 x pass(30); pass(10)", "pass(31) -> BAD_VALUE");
            refused("33 x pass(30); pass(10)", "pass(0) -> BAD_VALUE");
            refused("33 x pass(30); pass(10)", "pass(MAX) -> BAD_VALUE");
        });
    }
}
