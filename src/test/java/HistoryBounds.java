/** The boundary cases in "Terms" of texts, of the history and of errors. */
final class HistoryBounds extends Bounds {
    /** An office in which every kind of error and NONE has a call that answers it. */
    private static final String OFFICE = "addGuide(2, 9); addGuide(3, 4); addGuide(1, 9); addBridge(50.0); "
        + "addTour(5, 20.0, 10, 1); addTour(5, 10.0, 8, 1); addTour(6, 0.0, 5, 0); book(0, 7); book(1, 5); lead(0, 0); "
        + "cancel(2); keep(); setTemperature(2.0); 'book 0 9'";

    private HistoryBounds() {
    }

    static void tests() {
        lengths();
        commands();
        numbers();
        words();
        faults();
        states();
        acts();
        snapshots();
        stateAndNoState();
        numbersGivenAgain();
        constants();
        orderOfChecks();
        nothingChanges();
    }

    private static void lengths() {
        in("TEXTS");
        sentence("There is a text of at most 40 characters, empty at first.", () -> {
            rows("count(12) -> 0; clearText() -> 0; perform() -> -100");
            // A longer text that stood there before is no part of a shorter one.
            for (String text : new String[] {"book", "book ", "book 1", "book 1 ", "leave 1", "leave 1 "}) {
                rows("'book 10 10'; perform() -> UNKNOWN; '" + text + "'; perform() -> " + (-100 - text.length()));
                rows("'leave 10 10'; perform() -> UNKNOWN; '" + text + "'; perform() -> " + (-100 - text.length()));
            }
            rows("'cancel 10'; perform() -> UNKNOWN; 'cancel'; perform() -> -106; 'cance'; perform() -> -100");
            rows("10 x addTour(5, 0.0, 1, 0); 'cancel 10'; perform() -> UNKNOWN; 'cancel 1'; perform() -> 0; "
                + "tour(1, 6) -> 2");
            rows("39 x type(98); type(98) -> 40; count(12) -> 40; type(98) -> FULL; count(12) -> 40; "
                + "clearText() -> 40; "
                + "type(98) -> 1");
            // The last place of a full text is read, too.
            rows("'book 0 1" + " ".repeat(32) + "'; perform() -> -108");
            rows("'" + "b".repeat(40) + "'; perform() -> -100");
        });
    }

    private static void commands() {
        sentence("A command is a word, and for each of its numbers a blank and the number", () -> {
            String tour = "addTour(20, 0.0, 3, 0); ";
            acts(tour + "'book 0 2'", "perform() -> 6");
            refused(tour + "'book  0 2'", "perform() -> -105");
            refused(tour + "'book 0  2'", "perform() -> -107");
            refused(tour + "'book0 2'", "perform() -> -104");
            refused(tour + "' book 0 2'", "perform() -> -100");
            refused(tour + "'book 0 2 '", "perform() -> -108");
        });
        sentence("The commands are: \"book\" (a tour, how many guests), \"leave\" (a tour, how many guests), \"merge\" "
            + "(a tour, the tour into which it is merged), \"cancel\" (a tour), \"lead\" (a guide, a tour).", () -> {
                String tours = "2 x addGuide(2, 30); 3 x addTour(20, 0.0, 3, 0); book(1, 2); book(2, 4); ";
                acts(tours + "'book 1 3'; perform() -> 9; undo()", "perform() -> 9");
                acts(tours + "'leave 2 1'", "perform() -> 3");
                rows(tours + "'leave 2 1'; perform(); tour(2, 3) -> 3");
                acts(tours + "'merge 2 1'", "perform() -> 0");
                rows(tours + "'merge 2 1'; perform(); tour(2, 6) -> 3; tour(1, 3) -> 6");
                acts(tours + "'cancel 2'", "perform() -> 12");
                refused(tours + "'cancel 2 1'", "perform() -> -108");
                refused(tours + "'cancel'", "perform() -> -106");
                acts(tours + "'lead 1 2'", "perform() -> 7");
                rows(tours + "'lead 1 2'; perform(); rope(2, 0, 0) -> 1; guide(1, 3) -> 2");
                for (String word : new String[] {"book", "leave", "merge", "lead"}) {
                    refused(tours + "'" + word + " 1'", "perform() -> " + (-102 - word.length()));
                }
            });
    }

    private static void numbers() {
        sentence("(one or two digits, without zeros in front unless it is the single digit 0).", () -> {
            String tours = "10 x addTour(20, 0.0, 3, 0); ";
            acts(tours + "'book 0 1'", "perform() -> 3");
            acts(tours + "'book 9 9'", "perform() -> 27");
            acts(tours + "'book 9 10'", "perform() -> 30");
            acts(tours + "'book 9 12'", "perform() -> 36");
            refused(tours + "'book 9 13'", "perform() -> BAD_VALUE");
            refused(tours + "'book 9 99'", "perform() -> BAD_VALUE");
            refused(tours + "'book 9 0'", "perform() -> BAD_VALUE");
            refused(tours + "'book 10 1'", "perform() -> UNKNOWN");
            refused(tours + "'book 99 1'", "perform() -> UNKNOWN");
            refused(tours + "'book 100 1'", "perform() -> -107");
            refused(tours + "'book 1 100'", "perform() -> -109");
            refused(tours + "'book 00 1'", "perform() -> -106");
            refused(tours + "'book 01 1'", "perform() -> -106");
            refused(tours + "'book 1 00'", "perform() -> -108");
            refused(tours + "'book 1 01'", "perform() -> -108");
            refused(tours + "'cancel 00'", "perform() -> -108");
            refused(tours + "'book -1 1'", "perform() -> -105");
        });
    }

    private static void words() {
        sentence("The word goes up to the first character that is no small letter (a to z).", () -> {
            // The characters just before a and just behind z end the word, and those in it do not.
            rows("'book'; type(96); perform() -> -104; 'book'; type(123); perform() -> -104");
            rows("'book'; type(97); perform() -> -100; 'book'; type(122); perform() -> -100");
            rows("'book'; type(65); perform() -> -104; 'book'; type(90); perform() -> -104");
            rows("'book'; type(228); perform() -> -104; 'book'; type(353); perform() -> -104");
            rows("'book'; type(0); perform() -> -104; 'book'; type(65535); perform() -> -104");
            rows("'Book 0 1'; perform() -> -100; 'bOok 0 1'; perform() -> -100; 'booK 0 1'; perform() -> -100");
        });
        sentence("If it is none of these, the fault of the text is 0;", () -> {
            String[] texts = {"cook 0 1", "bnok 0 1", "booj 0 1", "keave 0 1", "leavd 0 1", "nerge 0 1", "mergf 0 1",
                "bancel 0", "cancem 0", "kead 0 0", "leae 0 0", "", " ", "b", "boo", "books 0 1", "leav 0 1", "leaves",
                "merg 0 1", "merger 0 1", "cance 0", "cancels 0", "lea 0 0", "leads 0 0", "leadbook 0 0", "bookbook", "0", "pass 1", "undo", "release 0 0"};
            for (String text : texts) {
                refused("addTour(20, 0.0, 3, 0); addGuide(2, 30); '" + text + "'", "perform() -> -100");
            }
        });
    }

    private static void faults() {
        sentence("otherwise it is the index, from 0, of the first character behind the word that is not allowed at its place",
            () -> {
                String[] texts = {"book.0 1", "book .0 1", "book 0.1", "book 10.1", "book 0 .", "book 0 1.", "book 0 10.",
                    "book 0 101", "cancel.", "cancel .", "cancel 1.", "cancel 10.", "cancel 1 ", "lead 1-0", "merge 1 /",
                    "merge 1 :", "leave : 1", "leave / 1", "leave 1x1 y"};
                int[] faults = {4, 5, 6, 7, 7, 8, 9, 9, 6, 7, 8, 9, 8, 6, 8, 8, 6, 6, 7};
                for (int i = 0; i < texts.length; i++) {
                    refused("addTour(20, 0.0, 3, 0); '" + texts[i] + "'", "perform() -> " + (-100 - faults[i]));
                }
            });
        sentence("or the length of the text if it ends too early.", () -> {
            for (String word : new String[] {"book", "leave", "merge", "lead"}) {
                for (String rest : new String[] {"", " ", " 0", " 10", " 0 ", " 10 "}) {
                    refused("'" + word + rest + "'", "perform() -> " + (-100 - (word + rest).length()));
                }
            }
            refused("'cancel'", "perform() -> -106");
            refused("'cancel '", "perform() -> -107");
            refused("'cancel 0'", "perform() -> UNKNOWN");
        });
    }

    private static void states() {
        in("HISTORY");
        sentence("A history of at most 5 states is kept;", () -> {
            rows("count(11) -> 0; undo() -> NONE");
            rows("4 x pass(1); count(11) -> 4; pass(1); count(11) -> 5; pass(1); count(11) -> 5; undo() -> 4");
        });
        sentence("when one more is recorded, the oldest one is dropped;", () -> {
            rows("5 x pass(1); 5 x undo(); count(0) -> 0; undo() -> NONE");
            rows("6 x pass(1); 5 x undo(); count(0) -> 1; undo() -> NONE; count(0) -> 1");
            rows("14 x pass(1); 5 x undo(); count(0) -> 9; undo() -> NONE");
        });
        sentence("undo() removes and restores the latest one.", () -> {
            rows("7 x pass(1); undo() -> 4; count(0) -> 6; undo() -> 3; count(0) -> 5; pass(10); undo() -> 3; "
                + "count(0) -> 5; undo() -> 2; count(0) -> 4; undo() -> 1; undo() -> 0; count(0) -> 2; undo() -> NONE");
        });
    }

    private static void acts() {
        sentence("Each call of a method that is described as an act, and returns no error and not NONE, "
            + "records the state that was before it.", () -> {
                String[] rows = {"addGuide(1, 0) -> 3", "renew(0, 3, 8) -> 9", "addBridge(1.0) -> 1",
                    "setTemperature(-2.0) -> 1", "addTour(9, 0.0, 1, 0) -> 3", "book(0, 1) -> 10", "leave(0, 1) -> 5",
                    "lead(2, 1) -> 6", "release(0, 0) -> 7", "merge(0, 1) -> 14", "cancel(0) -> 70", "pass(1) -> 0",
                    "restore() -> 0"};
                for (String row : rows) {
                    acts(OFFICE, row);
                }
                String[] texts = {"book 0 5", "leave 1 5", "merge 0 1", "cancel 0", "lead 2 1"};
                int[] answers = {50, 20, 14, 70, 6};
                for (int i = 0; i < texts.length; i++) {
                    acts(OFFICE + "; '" + texts[i] + "'", "perform() -> " + answers[i]);
                }
                // An act whose answer is 0 is one all the same.
                acts(OFFICE + "; pass(5)", "leave(0, 1) -> 0");
                rows(OFFICE + "; count(11) -> 5; 5 x undo(); keep() -> 0; type(98); clearText(); perform() -> -100; "
                    + "count(11) -> 0");
            });
    }

    private static void snapshots() {
        sentence("There is one snapshot, empty at first.", () -> {
            refused("", "restore() -> NONE");
            refused("addGuide(2, 9); undo()", "restore() -> NONE");
            acts("keep()", "restore() -> 0");
            rows("pass(1); keep(); pass(2); keep(); pass(3); restore() -> 3; pass(4); restore() -> 3");
        });
    }

    private static void stateAndNoState() {
        sentence("A state is everything but the text, the history and the snapshot.", () -> {
            rows("'book'; pass(1); 'cancel'; undo() -> 0; count(12) -> 6; keep(); 'x'; restore(); count(12) -> 1");
            rows("3 x pass(1); keep(); 2 x pass(1); restore() -> 3; count(11) -> 5; undo(); count(0) -> 5; "
                + "count(11) -> 4");
            rows("keep(); pass(1); keep() -> 1; undo(); restore() -> 1; keep() -> 1; pass(1); undo(); restore() -> 1");
            Office office = Office.after(OFFICE);
            String before = office.state();
            office.play("keep(); addGuide(1, 1); renew(0, 1, 1); addBridge(3.0); setTemperature(-3.0); restore() -> 0");
            Checks.dueText("guides, bridges and weather by restore()", office.state(), before);
            office = Office.after(OFFICE).play("keep(); book(0, 1); leave(1, 2); release(0, 0); lead(2, 1); cancel(0); "
                + "merge(0, 1) -> NOT_POSSIBLE; pass(9); addTour(9, 0.0, 1, 0); restore() -> 0");
            Checks.dueText("tours by restore()", office.state(), before);
        });
    }

    private static void numbersGivenAgain() {
        sentence("A state is everything", () -> {
            // The numbers are given anew behind undo() and restore(), and bear others then.
            String first = "addGuide(1, 30); addBridge(40.0); addTour(20, 20.0, 10, 1); addTour(20, 9.0, 8, 1); "
                + "book(0, 4); "
                + "book(1, 3); lead(0, 0)";
            String second = "addGuide(3, 29); addTour(19, 46.0, 7, 0); addTour(18, 31.0, 6, 0); book(1, 5); "
                + "lead(0, 1); "
                + "cancel(1); cancel(0)";
            dueAgain(first, second);
            dueAgain(second, first);
            dueAgain(first + "; pass(21) -> 1", second);
            dueAgain(second, first + "; pass(21) -> 1");
            dueAgain(first + "; merge(0, 1)", first + "; pass(21) -> 1");
            // Slopes of the same base are told apart by merging alone.
            String slopes = "addTour(5, 20.0, 1, 0); addTour(5, 25.0, 1, 0); keep(); 2 x undo(); addTour(5, 28.0, 1, 0); "
                + "addTour(5, 21.0, 1, 0)";
            acts(slopes, "merge(0, 1) -> 0");
            refused(slopes, "merge(1, 0) -> NOT_POSSIBLE");
            acts(slopes + "; restore()", "merge(1, 0) -> 0");
            refused(slopes + "; restore()", "merge(0, 1) -> NOT_POSSIBLE");
        });
    }

    // With the snapshot of a new object, another office can be made in place of the one that was.
    private static void dueAgain(String first, String second) {
        String due = Office.after(first).state();
        Office kept = Office.after("keep(); " + second + "; restore(); " + first);
        Checks.dueText(first + ", in place of " + second, kept.state(), due);
        kept = Office.after("keep(); " + first + "; restore(); addGuide(3, 28); addTour(17, 47.0, 9, 0); "
            + "addTour(16, 32.0, 8, 0); cancel(1); 5 x undo()");
        Checks.dueText(first + ", by undo()", kept.state(), due);
        kept = Office.after(first + "; keep(); addTour(29, 59.0, 3, 0); 3 x pass(1); restore()");
        Checks.dueText(first + ", by restore()", kept.state(), due);
    }

    private static void constants() {
        in("ERRORS");
        sentence("`UNKNOWN = -1`: There is no such guide, bridge or tour.", () -> {
            Checks.due("UNKNOWN", GlacierGuides.UNKNOWN, -1);
            refused("", "renew(0, 1, 1) -> UNKNOWN");
            refused("addTour(5, 0.0, 1, 0)", "holds(0, 0) -> UNKNOWN");
            refused("", "cancel(0) -> UNKNOWN");
        });
        sentence("`BAD_VALUE = -2`: Another argument is out of range.", () -> {
            Checks.due("BAD_VALUE", GlacierGuides.BAD_VALUE, -2);
            refused("", "pass(0) -> BAD_VALUE");
        });
        sentence("`FULL = -3`: There is no more room.", () -> {
            Checks.due("FULL", GlacierGuides.FULL, -3);
            refused("6 x addBridge(1.0)", "addBridge(1.0) -> FULL");
        });
        sentence("`NOT_POSSIBLE = -4`: This is not possible.", () -> {
            Checks.due("NOT_POSSIBLE", GlacierGuides.NOT_POSSIBLE, -4);
            refused("addTour(5, 0.0, 1, 0); cancel(0)", "cancel(0) -> NOT_POSSIBLE");
        });
        sentence("`NONE = -5`: There is no such thing; not an error.", () -> {
            Checks.due("NONE", GlacierGuides.NONE, -5);
            refused("", "undo() -> NONE");
        });
    }

    private static void orderOfChecks() {
        sentence("Where several errors can apply, the order of the @return line is the order of the checks.", () -> {
            String full = "8 x addGuide(2, 9); 10 x addTour(5, 0.0, 1, 0); book(0, 12); cancel(1)";
            refused(full, "addGuide(0, 9) -> BAD_VALUE");
            refused(full, "addTour(5, 0.0, 0, 0) -> BAD_VALUE");
            refused(full, "book(10, 13) -> UNKNOWN");
            refused(full, "book(1, 13) -> BAD_VALUE");
            refused(full, "book(0, 13) -> BAD_VALUE");
            refused(full + "; book(2, 12); cancel(2)", "book(2, 1) -> NOT_POSSIBLE");
        });
        sentence("NONE is no error; it is returned only if no error applies.", () -> {
            String scene = "addGuide(2, 9); addTour(5, 0.0, 1, 0); cancel(0)";
            refused(scene, "release(0, 0) -> NOT_POSSIBLE");
            refused(scene, "release(1, 0) -> UNKNOWN");
            refused(scene, "rope(0, 0, 3) -> BAD_VALUE");
            refused(scene, "rope(0, 0, 0) -> NONE");
            refused(scene, "renew(0, 2, 9) -> NONE");
        });
    }

    private static void nothingChanges() {
        sentence("A call that returns an error or NONE changes nothing.", () -> {
            String[] rows = {"addGuide(0, 1) -> BAD_VALUE", "renew(3, 1, 1) -> UNKNOWN", "renew(0, 4, 1) -> BAD_VALUE",
                "renew(0, 2, 9) -> NONE", "addBridge(-1.0) -> BAD_VALUE", "setTemperature(99.0) -> BAD_VALUE",
                "setTemperature(2.0) -> NONE", "addTour(1000, 0.0, 1, 0) -> BAD_VALUE", "book(3, 1) -> UNKNOWN",
                "book(0, 13) -> BAD_VALUE", "book(2, 1) -> NOT_POSSIBLE", "book(0, 6) -> FULL", "leave(3, 1) -> UNKNOWN",
                "leave(0, 0) -> BAD_VALUE", "leave(0, 8) -> NOT_POSSIBLE", "lead(0, 3) -> UNKNOWN",
                "lead(0, 1) -> NOT_POSSIBLE", "lead(1, 0) -> NOT_POSSIBLE", "release(3, 0) -> UNKNOWN",
                "release(0, 2) -> NOT_POSSIBLE", "release(2, 0) -> NONE", "merge(0, 3) -> UNKNOWN",
                "merge(0, 0) -> BAD_VALUE", "merge(1, 0) -> NOT_POSSIBLE", "merge(0, 2) -> NOT_POSSIBLE",
                "cancel(3) -> UNKNOWN", "cancel(2) -> NOT_POSSIBLE", "pass(31) -> BAD_VALUE", "perform() -> FULL"};
            for (String row : rows) {
                refused(OFFICE, row);
                // Where the history has room, a state too many is told.
                refused(OFFICE + "; keep(); 4 x undo(); restore()", row);
            }
            refused(OFFICE + "; 5 x undo()", "undo() -> NONE");
            refused("8 x addGuide(1, 1)", "addGuide(1, 1) -> FULL");
            refused("6 x addBridge(1.0)", "addBridge(1.0) -> FULL");
            refused("10 x addTour(5, 0.0, 1, 0)", "addTour(5, 0.0, 1, 0) -> FULL");
            refused("addTour(5, 0.0, 1, 0); 40 x type(48)", "type(98) -> FULL");
            refused("33 x pass(30); addTour(990, 0.0, 1, 0)", "pass(11) -> NOT_POSSIBLE");
            refused("addTour(5, 0.0, 1, 0); 'book 0'", "perform() -> -106");
        });
    }
}
