/** The boundary cases of promises 14 to 30: texts, history, and what is told. */
final class TellingBounds extends Bounds {
    private static final String[] WILD = {"MIN", "-2147483647", "-256", "-1", "32", "256", "65536", "2147483646", "MAX"};
    private static final String TOUR = "addTour(20, 0.0, 10, 0)";
    private static final String LED = "addGuide(1, 20); addGuide(3, 20); addTour(20, 15.0, 10, 0); book(0, 6); "
        + "lead(0, 0); lead(1, 0)";

    private TellingBounds() {
    }

    static void tests() {
        type();
        clearText();
        perform();
        undo();
        keep();
        restore();
        guide();
        tour();
        tourNow();
        tourErrors();
        rope();
        thickness();
        foretold();
        needed();
        holds();
        bestGuide();
        takes();
        count();
        countErrors();
        temperature();
    }

    private static void tellsWithEach(String[] values, String scene, String row) {
        for (String value : values) {
            tells(scene, row.replace("#", value));
        }
    }

    private static void type() {
        in("Promise 14: type");
        sentence("Types a character behind the text.", () ->
            rows(TOUR + "; type(98); type(111); type(111); type(107); type(32); type(48); type(32); type(49) -> 8; "
                + "perform() -> 10; type(50) -> 9; perform() -> FULL; undo(); perform() -> 120"));
        sentence("`character`: any character", () -> {
            int[] characters = {0, 9, 10, 31, 32, 39, 59, 127, 128, 255, 256, 8364, 55296, 57343, 65534, 65535};
            for (int character : characters) {
                rows("type(" + character + ") -> 1; count(12) -> 1; perform() -> -100; type(" + character + ") -> 2; "
                    + "'cancel'; type(" + character + ") -> 7; perform() -> " + (character == 32 ? -107 : -106)
                    + "; count(11) -> 0");
            }
        });
        sentence("Returns the length of the text then", () -> rows("type(97) -> 1; type(97) -> 2; type(97) -> 3; "
            + "clearText() -> 3; type(97) -> 1"));
        sentence("FULL if it has 40 characters.", () -> {
            rows("38 x type(97); type(97) -> 39; type(97) -> 40; type(97) -> FULL; count(12) -> 40; clearText() -> 40");
            refused(TOUR + "; 40 x type(97)", "type(98) -> FULL");
        });
    }

    private static void clearText() {
        in("Promise 15: clearText");
        sentence("Empties the text.", () ->
            rows(TOUR + "; 'book 0 1'; clearText(); count(12) -> 0; perform() -> -100; count(3) -> 1; count(11) -> 1; "
                + "type(98) -> 1; perform() -> -100; undo() -> 0; count(3) -> 0"));
        sentence("Returns the length that it had.", () -> rows("clearText() -> 0; type(97); clearText() -> 1; "
            + "clearText() -> 0; 39 x type(97); clearText() -> 39; 40 x type(97); clearText() -> 40; "
            + "clearText() -> 0"));
    }

    private static void perform() {
        in("Promise 16: perform");
        sentence("Does what the command in the text tells; the text stays.", () ->
            rows(TOUR + "; 'book 0 5'; perform() -> 50; count(12) -> 8; perform() -> 50; perform() -> FULL; "
                + "count(12) -> 8; "
                + "tour(0, 3) -> 10; 'x'; perform() -> -100; count(12) -> 1"));
        sentence("This is an act, as the method is that does the same.", () -> {
            acts(TOUR + "; 'book 0 12'", "perform() -> 120");
            acts("2 x " + TOUR + "; book(0, 2); 'leave 0 2'", "perform() -> 20");
            acts("2 x " + TOUR + "; book(0, 2); 'merge 0 1'", "perform() -> 0");
            acts("2 x " + TOUR + "; book(0, 2); 'cancel 0'", "perform() -> 20");
            acts("2 x addGuide(3, 20); " + TOUR + "; 'lead 1 0'", "perform() -> 8");
            rows(TOUR + "; 'book 0 1'; perform(); count(11) -> 2; undo() -> 1; tour(0, 3) -> 0; undo() -> 0");
        });
        sentence("Returns -100 minus the fault of the text if it has one (which is an error)", () -> {
            refused(TOUR, "perform() -> -100");
            refused(TOUR + "; 'book 0 1 '", "perform() -> -108");
            refused(TOUR + "; 'leave 10 '", "perform() -> -109");
            refused(TOUR + "; 'cancel 10" + " ".repeat(31) + "'", "perform() -> -109");
            refused(TOUR + "; 'lead 0 00'", "perform() -> -108");
            // The fault of the text comes before the errors of the method.
            refused(TOUR + "; 'book 9 99 '", "perform() -> -109");
        });
        sentence("otherwise what book(), leave(), merge(), cancel() or lead() returns.", () -> {
            String full = "addGuide(3, 19); 2 x " + TOUR + "; book(0, 12)";
            String[] texts = {"book 0 1", "book 2 1", "book 0 0", "leave 1 1", "leave 0 13", "leave 9 1", "merge 0 0",
                "merge 0 2", "cancel 2", "lead 0 0", "lead 1 0", "lead 0 2"};
            String[] errors = {"FULL", "UNKNOWN", "BAD_VALUE", "NOT_POSSIBLE", "BAD_VALUE", "UNKNOWN", "BAD_VALUE",
                "UNKNOWN", "UNKNOWN", "NOT_POSSIBLE", "UNKNOWN", "UNKNOWN"};
            for (int i = 0; i < texts.length; i++) {
                refused(full + "; '" + texts[i] + "'", "perform() -> " + errors[i]);
            }
            rows("addTour(20, 0.0, 9999, 0); 'book 0 12'; perform() -> 119988; 'leave 0 12'; perform() -> 119988");
        });
    }

    private static void undo() {
        in("Promise 17: undo");
        sentence("Removes and restores the latest state of the history.", () -> {
            rows(TOUR + "; book(0, 1); book(0, 2); undo(); tour(0, 3) -> 1; undo(); tour(0, 3) -> 0; undo(); "
                + "count(3) -> 0");
            rows(TOUR + "; book(0, 1); undo(); book(0, 3); undo() -> 1; tour(0, 3) -> 0");
            // What is undone cannot be undone back.
            rows("pass(1); pass(2); undo() -> 1; count(0) -> 1; undo() -> 0; count(0) -> 0; undo() -> NONE; "
                + "count(0) -> 0");
        });
        sentence("Returns the number of states that are left", () -> {
            rows("pass(1); undo() -> 0");
            rows("5 x pass(1); undo() -> 4; undo() -> 3; undo() -> 2; undo() -> 1; undo() -> 0");
            rows("6 x pass(1); undo() -> 4");
        });
        sentence("NONE if the history is empty.", () -> {
            refused("", "undo() -> NONE");
            refused("pass(1); undo()", "undo() -> NONE");
            refused("9 x pass(1); 5 x undo()", "undo() -> NONE");
            refused("pass(3); keep(); undo(); 'book'", "undo() -> NONE");
        });
    }

    private static void keep() {
        in("Promise 18: keep");
        sentence("Takes a snapshot of the state, in place of the one that was.", () -> {
            rows("keep(); pass(1); keep(); pass(2); restore() -> 1; count(0) -> 1; restore() -> 1");
            rows(TOUR + "; keep(); book(0, 4); keep(); leave(0, 1); restore() -> 0; tour(0, 3) -> 4");
            rows("pass(1); keep(); count(11) -> 1; undo() -> 0; count(0) -> 0");
        });
        sentence("Returns the day.", () -> {
            rows("keep() -> 0; pass(30); keep() -> 30");
            rows("33 x pass(30); pass(10); keep() -> 1000");
        });
    }

    private static void restore() {
        in("Promise 19: restore");
        sentence("Restores the state of the snapshot, which stays.", () -> {
            rows("pass(1); keep(); pass(2); restore(); count(0) -> 1; pass(3); restore(); count(0) -> 1; undo(); "
                + "count(0) -> 4; restore() -> 1");
            rows(TOUR + "; keep(); restore(); book(0, 1); restore(); tour(0, 3) -> 0; book(0, 2); restore(); "
                + "tour(0, 3) -> 0; count(8) -> 0");
        });
        sentence("This is an act.", () -> {
            acts("pass(1); keep(); pass(2)", "restore() -> 1");
            acts("keep()", "restore() -> 0");
            acts("keep(); 5 x pass(1)", "restore() -> 0");
        });
        sentence("Returns the day then", () -> {
            rows("keep(); pass(9); restore() -> 0");
            rows("33 x pass(30); pass(10); keep(); 5 x undo(); restore() -> 1000; count(0) -> 1000");
        });
        sentence("NONE if there is no snapshot.", () -> {
            refused("", "restore() -> NONE");
            refused(TOUR + "; pass(1); undo(); 'keep'", "restore() -> NONE");
        });
    }

    private static void guide() {
        in("Promise 20: guide");
        sentence("`guide`: a guide", () -> {
            tells("3 x addGuide(2, 9)", "guide(-1, 0) -> UNKNOWN");
            tells("3 x addGuide(2, 9)", "guide(0, 0) -> 2");
            tells("3 x addGuide(2, 9)", "guide(2, 0) -> 2");
            tells("3 x addGuide(2, 9)", "guide(3, 0) -> UNKNOWN");
        });
        sentence("`what`: 0 for the class, 1 for the day up to which the certificate is valid", () -> {
            rows("addGuide(1, 0); addGuide(3, 999); guide(0, 0) -> 1; guide(0, 1) -> 0; guide(1, 0) -> 3; "
                + "guide(1, 1) -> 999");
            rows("addGuide(1, 0); pass(1); renew(0, 2, 1); guide(0, 0) -> 2; guide(0, 1) -> 1");
        });
        sentence("2 for whether it is valid today (1, otherwise 0)", () -> {
            tells("addGuide(2, 0)", "guide(0, 2) -> 1");
            tells("addGuide(2, 0); pass(1)", "guide(0, 2) -> 0");
            tells("addGuide(2, 999); 33 x pass(30); pass(9)", "guide(0, 2) -> 1");
            tells("addGuide(2, 999); 33 x pass(30); pass(10)", "guide(0, 2) -> 0");
        });
        sentence("3 for the lowest open tour in whose row the guide is (NONE if there is none)", () -> {
            String three = "addGuide(2, 30); addTour(7, 0.0, 1, 0); addTour(6, 0.0, 1, 0); addTour(5, 0.0, 1, 0)";
            tells("addGuide(2, 30)", "guide(0, 3) -> NONE");
            tells(three, "guide(0, 3) -> NONE");
            tells("addGuide(2, 30); keep(); addTour(5, 0.0, 1, 0); lead(0, 0); restore()", "guide(0, 3) -> NONE");
            tells(three + "; lead(0, 2)", "guide(0, 3) -> 2");
            tells(three + "; lead(0, 2); lead(0, 0); lead(0, 1)", "guide(0, 3) -> 0");
            tells(three + "; lead(0, 2); lead(0, 0); cancel(0)", "guide(0, 3) -> 2");
            tells(three + "; lead(0, 2); release(0, 2)", "guide(0, 3) -> NONE");
            tells(three + "; lead(0, 2); book(2, 1); pass(6) -> 1", "guide(0, 3) -> NONE");
        });
        sentence("4 for tours that the guide has led (those that went)", () -> {
            tells(LED, "guide(0, 4) -> 0");
            tells(LED + "; pass(20)", "guide(0, 4) -> 0");
            tells(LED + "; pass(21) -> 1", "guide(0, 4) -> 1");
            tells(LED + "; pass(21) -> 1", "guide(1, 4) -> 1");
            tells(LED + "; cancel(0); pass(21)", "guide(0, 4) -> 0");
            tells(LED + "; book(0, 6); pass(21) -> 0", "guide(0, 4) -> 0");
            tells(LED + "; release(1, 0); leave(0, 2); pass(21) -> 1", "guide(1, 4) -> 0");
        });
        sentence("5 for the guests on the ropes of these", () -> {
            tells(LED, "guide(0, 5) -> 0");
            tells(LED + "; pass(21) -> 1", "guide(0, 5) -> 4");
            tells(LED + "; pass(21) -> 1", "guide(1, 5) -> 2");
            tells(LED + "; leave(0, 2); pass(21) -> 1", "guide(1, 5) -> 0");
            tells(LED + "; leave(0, 2); pass(21) -> 1", "guide(1, 4) -> 1");
            tells(LED + "; pass(21) -> 1; renew(0, 3, 20)", "guide(0, 5) -> 4");
            tells(LED + "; pass(21) -> 1; undo()", "guide(0, 5) -> 0");
            tells("addGuide(2, 30); addTour(5, 0.0, 1, 0); addTour(6, 0.0, 1, 0); book(0, 7); book(1, 1); lead(0, 0); "
                + "lead(0, 1); pass(7) -> 2", "guide(0, 5) -> 8");
            tells(TOUR + "; book(0, 1); keep(); addGuide(2, 30); lead(0, 0); pass(21) -> 1; restore(); addGuide(1, 9)",
                "guide(0, 5) -> 0");
            tells(TOUR + "; book(0, 1); keep(); addGuide(2, 30); lead(0, 0); pass(21) -> 1; restore(); addGuide(1, 9)",
                "guide(0, 4) -> 0");
        });
        sentence("UNKNOWN", () -> {
            tells("", "guide(0, 0) -> UNKNOWN");
            tells("8 x addGuide(2, 9)", "guide(8, 0) -> UNKNOWN");
            tellsWithEach(WILD, "8 x addGuide(2, 9)", "guide(#, 5) -> UNKNOWN");
        });
        sentence("BAD_VALUE", () -> {
            tells("addGuide(2, 9)", "guide(0, 0) -> 2");
            tells("addGuide(2, 9)", "guide(0, 5) -> 0");
            tells("addGuide(2, 9)", "guide(0, 6) -> BAD_VALUE");
            tellsWithEach(WILD, "addGuide(2, 9)", "guide(0, #) -> BAD_VALUE");
        });
        order("UNKNOWN; BAD_VALUE", () -> tells("addGuide(2, 9)", "guide(1, 6) -> UNKNOWN"));
    }

    private static void tour() {
        in("Promise 21: tour");
        sentence("`tour`: a tour", () -> {
            tells("3 x " + TOUR, "tour(-1, 0) -> UNKNOWN");
            tells("3 x " + TOUR, "tour(0, 0) -> 20");
            tells("3 x " + TOUR, "tour(2, 0) -> 20");
            tells("3 x " + TOUR, "tour(3, 0) -> UNKNOWN");
        });
        sentence("`what`: 0 for its day, 1 for its price, 2 for its bridges", () -> {
            rows("addTour(0, 0.0, 1, 0); tour(0, 0) -> 0; tour(0, 1) -> 1; tour(0, 2) -> 0");
            rows("6 x addBridge(9.0); addTour(999, 0.0, 9999, 63); tour(0, 0) -> 999; tour(0, 1) -> 9999; "
                + "tour(0, 2) -> 63");
        });
        sentence("3 for its guests, 4 for the number of its guides, 5 for what was paid for it and is not refunded", () -> {
            rows(TOUR + "; tour(0, 3) -> 0; tour(0, 4) -> 0; tour(0, 5) -> 0");
            rows("4 x addGuide(2, 30); " + TOUR + "; book(0, 12); lead(0, 0); lead(1, 0); lead(2, 0); lead(3, 0); "
                + "tour(0, 3) -> 12; tour(0, 4) -> 4; tour(0, 5) -> 120; leave(0, 5); tour(0, 3) -> 7; "
                + "tour(0, 5) -> 70");
        });
        sentence("6 for its state (0 open, 1 gone, 2 cancelled, 3 merged)", () -> {
            tells(TOUR, "tour(0, 6) -> 0");
            tells(LED + "; pass(21)", "tour(0, 6) -> 1");
            tells(TOUR + "; cancel(0)", "tour(0, 6) -> 2");
            tells("2 x " + TOUR + "; merge(0, 1)", "tour(0, 6) -> 3");
        });
        sentence("7 for the cause for which it was cancelled (NONE if it was not)", () -> {
            tells(TOUR, "tour(0, 7) -> NONE");
            tells(LED + "; pass(21)", "tour(0, 7) -> NONE");
            tells("2 x " + TOUR + "; merge(0, 1)", "tour(0, 7) -> NONE");
            tells(TOUR + "; pass(21)", "tour(0, 7) -> 1");
            tells("addBridge(9.0); addTour(0, 0.0, 1, 1); book(0, 1); pass(1)", "tour(0, 7) -> 2");
            tells(LED + "; release(1, 0); pass(21)", "tour(0, 7) -> 3");
            tells(TOUR + "; cancel(0)", "tour(0, 7) -> 4");
            tells(TOUR + "; cancel(0); undo()", "tour(0, 7) -> NONE");
        });
        sentence("8 for the guests that are left over", () -> {
            tells(LED, "tour(0, 8) -> 0");
            tells(LED + "; book(0, 4)", "tour(0, 8) -> 0");
            tells(LED + "; book(0, 5)", "tour(0, 8) -> 1");
            tells(TOUR + "; book(0, 12)", "tour(0, 8) -> 12");
            tells("2 x " + TOUR + "; book(0, 12); merge(0, 1)", "tour(0, 8) -> 0");
        });
        sentence("9 for the base of its slope", () ->
            rows("addTour(5, 15.0-, 1, 0); addTour(5, 15.0, 1, 0); tour(0, 9) -> 7; tour(1, 9) -> 5; merge(1, 0); "
                + "tour(1, 9) -> 5; tour(0, 9) -> 7"));
    }

    private static void tourNow() {
        sentence("10 for the cause for which it would be cancelled if its day passed now, "
            + "with guests, guides and bridges as they are (0 if it would go", () -> {
                tells(TOUR, "tour(0, 10) -> 1");
                tells(LED, "tour(0, 10) -> 0");
                tells(LED + "; book(0, 5)", "tour(0, 10) -> 3");
                tells(LED + "; renew(1, 3, 19)", "tour(0, 10) -> 3");
                tells(LED + "; renew(1, 3, 21)", "tour(0, 10) -> 0");
                // On a day before its own the certificate that will have lapsed is valid still.
                tells("addGuide(2, 30); addTour(9, 0.0, 1, 0); book(0, 1); lead(0, 0); "
                    + "renew(0, 2, 8)", "tour(0, 10) -> 3");
                tells("addBridge(20.0-); addTour(9, 0.0, 1, 1); addGuide(2, 9); lead(0, 0); "
                    + "book(0, 1)", "tour(0, 10) -> 2");
                tells("addBridge(20.0); setTemperature(30.0); addTour(9, 0.0, 1, 1); addGuide(2, 9); lead(0, 0); "
                    + "book(0, 1)",
                    "tour(0, 10) -> 0");
            });
        sentence("NONE if it is not open)", () -> {
            tells(TOUR + "; cancel(0)", "tour(0, 10) -> NONE");
            tells("2 x " + TOUR + "; merge(0, 1)", "tour(0, 10) -> NONE");
            tells(LED + "; pass(21) -> 1", "tour(0, 10) -> NONE");
            tells(LED + "; pass(20) -> 0", "tour(0, 10) -> 0");
        });
    }

    private static void tourErrors() {
        sentence("UNKNOWN", () -> {
            tells("", "tour(0, 0) -> UNKNOWN");
            tells("10 x " + TOUR, "tour(10, 0) -> UNKNOWN");
            tellsWithEach(WILD, "10 x " + TOUR, "tour(#, 10) -> UNKNOWN");
        });
        sentence("BAD_VALUE", () -> {
            tells(TOUR, "tour(0, 0) -> 20");
            tells(TOUR, "tour(0, 10) -> 1");
            tells(TOUR, "tour(0, 11) -> BAD_VALUE");
            tellsWithEach(WILD, TOUR, "tour(0, #) -> BAD_VALUE");
        });
        order("UNKNOWN; BAD_VALUE", () -> tells(TOUR, "tour(1, 11) -> UNKNOWN"));
    }

    private static void rope() {
        in("Promise 22: rope");
        sentence("`tour`: a tour", () -> {
            tells(LED + "; 9 x " + TOUR + "; release(1, 0); lead(1, 9)", "rope(9, 0, 0) -> 1");
            tells(LED, "rope(-1, 0, 0) -> UNKNOWN");
            tells(LED, "rope(0, 0, 0) -> 0");
            tells(LED, "rope(1, 0, 0) -> UNKNOWN");
        });
        sentence("`place`: a place in its row of guides, from 0", () -> {
            tells(LED, "rope(0, -1, 0) -> BAD_VALUE");
            tells(LED, "rope(0, 0, 0) -> 0");
            tells(LED, "rope(0, 1, 0) -> 1");
            tells(LED, "rope(0, 2, 0) -> NONE");
            tells("4 x addGuide(2, 30); " + TOUR + "; lead(3, 0); lead(2, 0); lead(1, 0); "
                + "lead(0, 0)", "rope(0, 3, 0) -> 0");
        });
        sentence("`what`: 0 for the guide, 1 for the ratio, 2 for the guests on the rope", () -> {
            rows(LED + "; rope(0, 0, 0) -> 0; rope(0, 0, 1) -> 4; rope(0, 0, 2) -> 4; rope(0, 1, 0) -> 1; "
                + "rope(0, 1, 1) -> 6; "
                + "rope(0, 1, 2) -> 2");
            rows(LED + "; leave(0, 2); rope(0, 0, 2) -> 4; rope(0, 1, 2) -> 0; leave(0, 4); rope(0, 0, 2) -> 0");
            rows(LED + "; book(0, 6); rope(0, 0, 2) -> 4; rope(0, 1, 2) -> 6");
            tells("addGuide(1, 30); addTour(5, 45.0, 1, 0); book(0, 2); lead(0, 0)", "rope(0, 0, 1) -> 1");
        });
        sentence("UNKNOWN", () -> {
            tells("", "rope(0, 0, 0) -> UNKNOWN");
            tellsWithEach(WILD, LED, "rope(#, 0, 0) -> UNKNOWN");
        });
        sentence("BAD_VALUE (place is negative, or what)", () -> {
            tellsWithEach(new String[] {"-1", "-256", "MIN"}, LED, "rope(0, #, 0) -> BAD_VALUE");
            tells(LED, "rope(0, 0, -1) -> BAD_VALUE");
            tells(LED, "rope(0, 0, 3) -> BAD_VALUE");
            tellsWithEach(WILD, LED, "rope(0, 0, #) -> BAD_VALUE");
        });
        sentence("NONE if there are not so many.", () -> {
            tells(TOUR, "rope(0, 0, 0) -> NONE");
            tells(LED, "rope(0, 2, 2) -> NONE");
            tellsWithEach(new String[] {"3", "4", "256", "65536", "2147483646", "MAX"}, LED, "rope(0, #, 2) -> NONE");
            tells("4 x addGuide(2, 30); " + TOUR + "; lead(3, 0); lead(2, 0); lead(1, 0); "
                + "lead(0, 0)", "rope(0, 4, 2) -> NONE");
            // What stands behind the end of a row is no guide of it.
            tells(LED + "; release(1, 0)", "rope(0, 1, 0) -> NONE");
        });
        order("UNKNOWN; BAD_VALUE (place is negative, or what); NONE", () -> {
            tells(LED, "rope(1, -1, 0) -> UNKNOWN");
            tells(LED, "rope(1, 0, 3) -> UNKNOWN");
            tells(LED, "rope(0, 2, 3) -> BAD_VALUE");
            tells(LED, "rope(0, -1, -1) -> BAD_VALUE");
        });
    }

    private static void thickness() {
        in("Promise 23: thickness");
        sentence("`bridge`: a bridge", () -> {
            String six = "addBridge(1.0); addBridge(2.0); addBridge(3.0); addBridge(4.0); addBridge(5.0); "
                + "addBridge(6.0)";
            tells(six, "thickness(-1) -> NaN");
            tells(six, "thickness(0) -> 1.0");
            tells(six, "thickness(5) -> 6.0");
            tells(six, "thickness(6) -> NaN");
        });
        sentence("Returns its thickness", () -> {
            tells("addBridge(0.0)", "thickness(0) -> 0.0");
            tells("addBridge(500.0)", "thickness(0) -> 500.0");
        });
        sentence("a NaN (0.0 / 0.0) if there is none.", () -> {
            tells("", "thickness(0) -> NaN");
            tells("addBridge(9.0); undo()", "thickness(0) -> NaN");
            tellsWithEach(WILD, "6 x addBridge(9.0)", "thickness(#) -> NaN");
        });
    }

    private static void foretold() {
        in("Promise 24: foretold");
        sentence("Tells the thickness that a bridge will have if days pass with the temperature as it is.", () -> {
            String[] degrees = {"30.0", "0.1", "0.0+", "-0.1", "-40.0"};
            for (String temperature : degrees) {
                for (int days : new int[] {1, 2, 29, 30}) {
                    Office office = Office.after("addBridge(90.0); setTemperature(" + temperature + ")");
                    Object told = office.call("foretold(0, " + days + ")");
                    Object then = office.play("pass(" + days + ")").call("thickness(0)");
                    Checks.dueNumber("foretold for " + days + " at " + temperature, (Double) told, (Double) then);
                }
            }
            // Days are foretold, too, where no more may pass.
            tells("addBridge(90.0); setTemperature(2.0); 33 x pass(30); pass(10); undo(); addBridge(90.0); pass(10)",
                "foretold(1, 30) -> 0.0");
            tells("33 x pass(30); pass(10); addBridge(90.0); setTemperature(2.0)", "foretold(0, 29) -> 3.0");
        });
        sentence("`bridge`: a bridge", () -> {
            tells("addBridge(1.0); addBridge(2.0)", "foretold(-1, 0) -> NaN");
            tells("addBridge(1.0); addBridge(2.0)", "foretold(0, 0) -> 1.0");
            tells("addBridge(1.0); addBridge(2.0)", "foretold(1, 0) -> 2.0");
            tells("addBridge(1.0); addBridge(2.0)", "foretold(2, 0) -> NaN");
        });
        sentence("`days`: 0 to 30", () -> {
            String scene = "addBridge(90.0); setTemperature(2.0)";
            tells(scene, "foretold(0, -1) -> NaN");
            tells(scene, "foretold(0, 0) -> 90.0");
            tells(scene, "foretold(0, 1) -> 87.0");
            tells(scene, "foretold(0, 29) -> 3.0");
            tells(scene, "foretold(0, 30) -> 0.0");
            tells(scene, "foretold(0, 31) -> NaN");
        });
        sentence("Returns the thickness", () -> {
            tells("addBridge(500.0); setTemperature(-40.0)", "foretold(0, 1) -> 500.0");
            tells("addBridge(0.0); setTemperature(30.0)", "foretold(0, 1) -> 0.0");
            tells("addBridge(500.0); setTemperature(30.0)", "foretold(0, 30) -> 0.0");
            tells("addBridge(0.0); setTemperature(-40.0)", "foretold(0, 30) -> 300.0");
            tells("addBridge(7.0)", "foretold(0, 30) -> 7.0");
        });
        sentence("a NaN if there is no such bridge, or days is out of range.", () -> {
            tells("", "foretold(0, 0) -> NaN");
            tells("6 x addBridge(9.0)", "foretold(6, 31) -> NaN");
            tellsWithEach(WILD, "6 x addBridge(9.0)", "foretold(#, 1) -> NaN");
            tellsWithEach(WILD, "6 x addBridge(9.0)", "foretold(0, #) -> NaN");
        });
    }

    private static void needed() {
        in("Promise 25: needed");
        sentence("`tour`: a tour", () -> {
            String two = "addGuide(2, 30); 2 x " + TOUR + "; book(1, 1); lead(0, 1)";
            tells(two, "needed(-1) -> NaN");
            tells(two, "needed(0) -> 17.5");
            tells(two, "needed(1) -> 20.0");
            tells(two, "needed(2) -> NaN");
        });
        sentence("Returns the thickness that its bridges have to have", () -> {
            tells(LED, "needed(0) -> 27.5");
            tells(LED + "; book(0, 6)", "needed(0) -> 32.5");
            tells("addGuide(3, 30); " + TOUR + "; book(0, 12); lead(0, 0)", "needed(0) -> 37.5");
            tells(TOUR + "; book(0, 12)", "needed(0) -> 17.5");
            tells(LED + "; cancel(0)", "needed(0) -> 27.5");
        });
        sentence("a NaN if there is none.", () -> {
            tells("", "needed(0) -> NaN");
            tells(TOUR + "; undo()", "needed(0) -> NaN");
            tells("10 x " + TOUR, "needed(10) -> NaN");
            tellsWithEach(WILD, "10 x " + TOUR, "needed(#) -> NaN");
        });
    }

    private static void holds() {
        in("Promise 26: holds");
        String scene = "addBridge(17.5); addBridge(17.5-); addBridge(20.0); addBridge(20.0-); addGuide(2, 30); "
            + "2 x " + TOUR
            + "; lead(0, 1); book(1, 1)";
        sentence("`tour`: a tour", () -> {
            tells(scene, "holds(-1, 0) -> UNKNOWN");
            tells(scene, "holds(0, 0) -> 1");
            tells(scene, "holds(1, 0) -> 0");
            tells(scene, "holds(2, 0) -> UNKNOWN");
        });
        sentence("`bridge`: a bridge", () -> {
            tells(scene, "holds(0, -1) -> UNKNOWN");
            tells(scene, "holds(0, 3) -> 1");
            tells(scene, "holds(0, 4) -> UNKNOWN");
        });
        sentence("Returns 1 if the bridge holds the tour, otherwise 0", () -> {
            tells(scene, "holds(0, 0) -> 1");
            tells(scene, "holds(0, 1) -> 0");
            tells(scene, "holds(1, 2) -> 1");
            tells(scene, "holds(1, 3) -> 0");
            tells("addBridge(0.0); addBridge(500.0); " + TOUR, "holds(0, 0) -> 0");
            tells("addBridge(0.0); addBridge(500.0); " + TOUR, "holds(0, 1) -> 1");
        });
        sentence("UNKNOWN (tour or bridge).", () -> {
            tells("", "holds(0, 0) -> UNKNOWN");
            tells(TOUR, "holds(0, 0) -> UNKNOWN");
            tells("addBridge(20.0)", "holds(0, 0) -> UNKNOWN");
            tellsWithEach(WILD, scene, "holds(#, 0) -> UNKNOWN");
            tellsWithEach(WILD, scene, "holds(0, #) -> UNKNOWN");
        });
    }

    private static void bestGuide() {
        in("Promise 27: bestGuide");
        sentence("Finds the guide with the greatest ratio on a tour, whether guests are left over or not.", () -> {
            String scene = "addGuide(2, 30); addGuide(3, 30); " + TOUR;
            tells(scene, "bestGuide(0) -> 1");
            tells(scene + "; book(0, 1); lead(0, 0)", "bestGuide(0) -> 1");
            tells(scene + "; book(0, 12)", "bestGuide(0) -> 1");
            tells(scene + "; book(0, 12); lead(1, 0)", "bestGuide(0) -> 0");
        });
        sentence("`tour`: a tour", () -> {
            String scene = "addGuide(2, 30); 2 x " + TOUR;
            tells(scene, "bestGuide(-1) -> UNKNOWN");
            tells(scene, "bestGuide(0) -> 0");
            tells(scene, "bestGuide(1) -> 0");
            tells(scene, "bestGuide(2) -> UNKNOWN");
        });
        sentence("Returns the guide for whom lead() is possible", () -> {
            tells("addGuide(3, 19); addGuide(1, 20); " + TOUR, "bestGuide(0) -> 1");
            tells("addGuide(3, 20); addGuide(1, 20); " + TOUR, "bestGuide(0) -> 0");
            tells("addGuide(3, 20); addGuide(1, 20); 2 x " + TOUR + "; lead(0, 1)", "bestGuide(0) -> 1");
            tells("addGuide(3, 20); addGuide(1, 20); 2 x " + TOUR + "; lead(0, 1)", "bestGuide(1) -> 1");
            tells("addGuide(3, 30); addTour(19, 0.0, 1, 0); " + TOUR + "; lead(0, 0)", "bestGuide(1) -> 0");
            String four = "5 x addGuide(2, 30); " + TOUR + "; lead(0, 0); lead(1, 0); lead(2, 0)";
            tells(four, "bestGuide(0) -> 3");
            tells(four + "; lead(3, 0)", "bestGuide(0) -> NONE");
        });
        sentence("with the greatest ratio, the lowest one of several", () -> {
            tells("addGuide(2, 30); addGuide(3, 30); addGuide(3, 30); " + TOUR, "bestGuide(0) -> 1");
            tells("8 x addGuide(1, 30); " + TOUR, "bestGuide(0) -> 0");
            tells("7 x addGuide(1, 30); addGuide(2, 30); " + TOUR, "bestGuide(0) -> 7");
            // On the steepest slopes the classes 1 and 2 have the same ratio.
            tells("addGuide(1, 30); addGuide(2, 30); addTour(5, 45.0, 1, 0)", "bestGuide(0) -> 0");
            tells("addGuide(1, 30); addGuide(2, 30); addTour(5, 45.0-, 1, 0)", "bestGuide(0) -> 1");
        });
        sentence("UNKNOWN", () -> {
            tells("addGuide(2, 30)", "bestGuide(0) -> UNKNOWN");
            tellsWithEach(WILD, "addGuide(2, 30); 10 x " + TOUR, "bestGuide(#) -> UNKNOWN");
        });
        sentence("NONE if there is none.", () -> {
            tells(TOUR, "bestGuide(0) -> NONE");
            tells("addGuide(2, 19); " + TOUR, "bestGuide(0) -> NONE");
            tells("addGuide(2, 30); " + TOUR + "; lead(0, 0)", "bestGuide(0) -> NONE");
            tells("addGuide(2, 30); " + TOUR + "; cancel(0)", "bestGuide(0) -> NONE");
            tells("addGuide(2, 30); 2 x " + TOUR + "; merge(0, 1)", "bestGuide(0) -> NONE");
        });
    }

    private static void takes() {
        in("Promise 28: takes");
        String three = "addGuide(1, 9); addGuide(2, 9); addGuide(3, 9)";
        sentence("`kind`: 1 to 3", () -> {
            tells(three, "takes(0, 0) -> BAD_VALUE");
            tells(three, "takes(1, 0) -> 1");
            tells(three, "takes(3, 2) -> 1");
            tells(three, "takes(4, 0) -> BAD_VALUE");
        });
        sentence("`guide`: a guide", () -> {
            tells(three, "takes(1, -1) -> UNKNOWN");
            tells(three, "takes(1, 0) -> 1");
            tells(three, "takes(1, 2) -> 0");
            tells(three, "takes(1, 3) -> UNKNOWN");
        });
        sentence("Returns 1 if it takes it, otherwise 0", () -> {
            for (int kind = 1; kind <= 3; kind++) {
                for (int guide = 0; guide < 3; guide++) {
                    tells(three, "takes(" + kind + ", " + guide + ") -> " + (kind == guide + 1 ? 1 : 0));
                }
            }
            // It is for the class alone: a certificate that has lapsed is taken, too.
            tells(three + "; pass(10)", "takes(1, 0) -> 1");
        });
        sentence("UNKNOWN (the guide)", () -> {
            tells("", "takes(1, 0) -> UNKNOWN");
            tellsWithEach(WILD, "8 x addGuide(1, 9)", "takes(1, #) -> UNKNOWN");
        });
        sentence("BAD_VALUE.", () -> tellsWithEach(WILD, three, "takes(#, 0) -> BAD_VALUE"));
        order("UNKNOWN (the guide); BAD_VALUE", () -> {
            tells(three, "takes(0, 3) -> UNKNOWN");
            tells(three, "takes(4, -1) -> UNKNOWN");
        });
    }

    private static void count() {
        in("Promise 29: count");
        sentence("`what`: 0 for the day, 1 for the number of guides, 2 for bridges, 3 for tours", () -> {
            rows("count(0) -> 0; count(1) -> 0; count(2) -> 0; count(3) -> 0");
            rows("33 x pass(30); pass(9); 8 x addGuide(1, 9); 6 x addBridge(9.0); 10 x addTour(999, 0.0, 1, 0); "
                + "pass(1); count(0) -> 1000; count(1) -> 8; count(2) -> 6; count(3) -> 10");
        });
        sentence("4 for tours that are open, 5 for those that have gone, 6 for those that were cancelled, "
            + "7 for those that were merged", () -> {
                rows("10 x " + TOUR + "; count(4) -> 10; count(5) -> 0; count(6) -> 0; count(7) -> 0");
                rows(LED + "; addGuide(2, 30); 4 x addTour(20, 15.0, 1, 0); merge(4, 3); cancel(2); count(4) -> 3; "
                    + "count(5) -> 0; count(6) -> 1; count(7) -> 1; pass(21); count(4) -> 0; count(5) -> 1; "
                    + "count(6) -> 3; "
                    + "count(7) -> 1; count(3) -> 5");
            });
        sentence("8 for all that is paid and not refunded, 9 for all refunds", () -> {
            rows("count(8) -> 0; count(9) -> 0; 10 x addTour(20, 0.0, 9999, 0); 'book 0 12'; perform(); book(9, 12); "
                + "count(8) -> 239976; leave(0, 12); cancel(9); count(8) -> 0; count(9) -> 239976");
            rows(LED + "; pass(21); count(8) -> 60; count(9) -> 0");
            rows(LED + "; cancel(0); undo(); count(8) -> 60; count(9) -> 0");
        });
        sentence("10 for the guests of tours that have gone", () -> {
            rows(LED + "; count(10) -> 0; pass(20); count(10) -> 0; pass(1); count(10) -> 6; undo(); count(10) -> 0; "
                + "cancel(0); count(10) -> 0");
            rows("2 x addGuide(3, 9); addTour(0, 0.0, 1, 0); addTour(1, 0.0, 1, 0); book(0, 8); book(1, 12); "
                + "lead(0, 0); "
                + "lead(0, 1); lead(1, 1); pass(2) -> 2; count(10) -> 20");
        });
        sentence("11 for the states in the history, 12 for the length of the text", () -> {
            rows("count(11) -> 0; 4 x pass(1); count(11) -> 4; pass(1); count(11) -> 5; pass(1); count(11) -> 5; "
                + "undo(); count(11) -> 4; 4 x undo(); count(11) -> 0; undo() -> NONE; count(11) -> 0");
            rows("count(12) -> 0; type(97); count(12) -> 1; 39 x type(97); count(12) -> 40; type(97) -> FULL; "
                + "count(12) -> 40; "
                + "clearText(); count(12) -> 0");
        });
    }

    private static void countErrors() {
        sentence("BAD_VALUE.", () -> {
            tells("", "count(-1) -> BAD_VALUE");
            tells("", "count(0) -> 0");
            tells("", "count(12) -> 0");
            tells("", "count(13) -> BAD_VALUE");
            tellsWithEach(WILD, LED, "count(#) -> BAD_VALUE");
        });
    }

    private static void temperature() {
        in("Promise 30: temperature");
        sentence("Returns the bits of the temperature, as told by Double.doubleToLongBits.", () -> {
            GlacierGuides x = new GlacierGuides();
            Checks.due("temperature() at first", x.temperature(), 0L);
            long[] bits = {0x403E000000000000L, 0xC044000000000000L, Long.MIN_VALUE, 1L, 0x8000000000000001L, 0L};
            for (long set : bits) {
                x.setTemperature(set);
                Checks.due("temperature() of " + set, x.temperature(), set);
            }
            tells("setTemperature(0.1)", "temperature() -> 0.1");
        });
    }
}
