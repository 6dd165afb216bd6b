import java.io.IOException;
import java.lang.reflect.Method;
import java.lang.reflect.Modifier;
import java.nio.file.Files;
import java.nio.file.Path;
import java.util.ArrayList;
import java.util.List;
import java.util.TreeSet;
import java.util.regex.Matcher;
import java.util.regex.Pattern;

/** The sentences of the document that name no boundary case. */
final class OtherSentences extends Bounds {
    private static final Path PROGRAM = Path.of("src", "main", "java", "GlacierGuides.java");
    private static final List<String> CONSTANTS = List.of("UNKNOWN", "BAD_VALUE", "FULL", "NOT_POSSIBLE", "NONE");
    private static final String TOUR = "addTour(20, 0.0, 10, 0)";

    /** Offices in which each error can be had; the last one has no room for anything. */
    private static final String[] OFFICES = {
        "",
        "keep(); 2 x addGuide(2, 30); addBridge(20.0); 3 x addTour(20, 20.0, 10, 1); book(0, 9); lead(0, 0); cancel(2); "
            + "'book 0 5'",
        "addGuide(1, 5); 2 x " + TOUR + "; 'leave 0 1'",
        "addGuide(1, 5); 2 x " + TOUR + "; 'cancel 9'",
        "2 x " + TOUR + "; 'merge 1 1'",
        "33 x pass(30); pass(10); 8 x addGuide(2, 999); 6 x addBridge(20.0); 'book 0  5'",
        "8 x addGuide(2, 30); 6 x addBridge(20.0); 10 x addTour(20, 20.0, 10, 63); book(0, 12); lead(0, 0); lead(1, 0); "
            + "lead(2, 0); lead(3, 0); 40 x type(32)",
    };
    private static final String[] NUMBERS = {"MIN", "-1", "0", "1", "2", "3", "7", "9", "20", "30", "MAX"};
    private static final String[] FEW_NUMBERS = {"-1", "0", "1", "20", "MAX"};
    private static final String[] BITS = {"0.0", "-0.0", "20.0", "NaN", "1.7976931348623157E308"};
    private static final String[] CHARACTERS = {"0", "32", "98", "65535"};
    // Some errors come only where the same call was made before.
    private static final int TIMES = 3;

    private OtherSentences() {
    }

    static void tests() {
        guidesAndTours();
        changes();
        textsAndHistory();
        whatATourHas();
        ratiosAndRopes();
        leaving();
        errors();
        constants();
        headings();
        numbersOfGuidesAndTours();
        numbersOfRopesAndCounts();
        takes();
    }

    private static void guidesAndTours() {
        in("What it is");
        sentence("Guides on a glacier: certificates of three classes that lapse, ", () ->
            rows("addGuide(1, 4); addGuide(2, 4); addGuide(3, 5); addTour(4, 20.0, 10, 0); lead(0, 0) -> 4; "
                + "lead(1, 0) -> 5; lead(2, 0) -> 6; pass(4); guide(0, 2) -> 1; guide(1, 2) -> 1; guide(2, 2) -> 1; "
                + "pass(1); guide(0, 2) -> 0; guide(1, 2) -> 0; guide(2, 2) -> 1; pass(1); guide(2, 2) -> 0; "
                + "renew(0, 3, 6) -> 4; guide(0, 2) -> 1; guide(0, 0) -> 3"));
        sentence("tours on slopes, ", () ->
            rows("addTour(9, 3.0, 10, 0); addTour(9, 16.0, 10, 0); addTour(9, 31.0, 10, 0); addTour(9, 46.0, 10, 0); "
                + "tour(0, 9) -> 7; tour(1, 9) -> 5; tour(2, 9) -> 3; tour(3, 9) -> 1"));
        sentence("ropes on which a guide has so many guests as slope and class allow, ", () ->
            rows("addGuide(3, 9); addGuide(1, 9); addTour(9, 3.0, 10, 0); addTour(8, 46.0, 10, 0); book(0, 12); "
                + "book(1, 12); lead(0, 0) -> 8; lead(1, 0) -> 6; rope(0, 0, 2) -> 8; rope(0, 1, 2) -> 4; "
                + "tour(0, 8) -> 0; lead(0, 1) -> 2; lead(1, 1) -> 1; rope(1, 0, 2) -> 2; rope(1, 1, 2) -> 1; "
                + "tour(1, 8) -> 9"));
    }

    private static void changes() {
        sentence("snow bridges that warmth makes thin and frost makes thick, ", () ->
            rows("addBridge(40.0); setTemperature(10.0); pass(1); thickness(0) -> 25.0; setTemperature(-10.0); pass(2); "
                + "thickness(0) -> 30.0"));
        sentence("tours that go or are cancelled day by day, ", () ->
            // The bridge has 28 on day 1, 25 on day 2 and 22 on day 3, and the tours need 27.5.
            rows("addGuide(2, 9); addBridge(31.0); setTemperature(2.0); addTour(1, 3.0, 10, 1); addTour(2, 3.0, 10, 1); "
                + "addTour(3, 3.0, 10, 1); book(0, 4); book(1, 4); book(2, 4); lead(0, 0); lead(0, 1); lead(0, 2); "
                + "pass(1) -> 0; pass(1) -> 1; tour(0, 6) -> 1; tour(1, 6) -> 0; pass(1) -> 0; tour(1, 7) -> 2; "
                + "tour(2, 6) -> 0; pass(1) -> 0; tour(2, 7) -> 2; count(5) -> 1; count(6) -> 2"));
        sentence("tours that are merged, ", () ->
            rows("addGuide(2, 9); addTour(9, 16.0, 10, 0); addTour(9, 3.0, 8, 0); book(0, 5); book(1, 2); lead(0, 0); "
                + "merge(1, 0) -> NOT_POSSIBLE; merge(0, 1) -> 10; tour(0, 6) -> 3; tour(1, 3) -> 7; tour(1, 5) -> 56; "
                + "guide(0, 3) -> 1; pass(10) -> 1"));
        sentence("refunds, ", () ->
            rows("addTour(20, 3.0, 10, 0); book(0, 12); leave(0, 2) -> 20; pass(10); leave(0, 2) -> 15; pass(5); "
                + "leave(0, 2) -> 10; pass(5); leave(0, 2) -> 0; count(9) -> 45; cancel(0) -> 75; count(9) -> 120; "
                + "count(8) -> 0"));
    }

    private static void textsAndHistory() {
        sentence("commands that are read from a text with the places of faults, ", () ->
            rows("addGuide(2, 30); 2 x " + TOUR + "; 'book 0 5'; perform() -> 50; 'lead 0 0'; perform() -> 7; "
                + "'leave 0 2'; perform() -> 20; 'merge 0 1'; perform() -> 0; 'cancel 1'; perform() -> 30; "
                + "'hire 0'; perform() -> -100; 'book0 5'; perform() -> -104; 'book 0'; perform() -> -106; "
                + "'book 0 05'; perform() -> -108; 'cancel 1 1'; perform() -> -108"));
        sentence("undo and a snapshot.", () ->
            rows(TOUR + "; book(0, 5); keep(); leave(0, 2); undo() -> 2; tour(0, 3) -> 5; cancel(0); restore() -> 0; "
                + "tour(0, 6) -> 0; undo() -> 3; tour(0, 6) -> 2; undo() -> 2; tour(0, 6) -> 0; undo() -> 1; "
                + "tour(0, 3) -> 0; undo() -> 0; count(3) -> 0; undo() -> NONE; restore() -> 0; tour(0, 3) -> 5"));
    }

    private static void whatATourHas() {
        in("TOURS");
        sentence("A tour has a day", () -> {
            rows("addTour(3, 0.0, 1, 0); addTour(0, 0.0, 1, 0); addTour(999, 0.0, 1, 0); tour(0, 0) -> 3; "
                + "tour(1, 0) -> 0; tour(2, 0) -> 999; pass(30); tour(0, 0) -> 3; tour(1, 0) -> 0; tour(2, 0) -> 999");
            rows("addGuide(2, 9); addTour(3, 0.0, 1, 0); book(0, 1); lead(0, 0); pass(3) -> 0; tour(0, 6) -> 0; "
                + "pass(1) -> 1; tour(0, 6) -> 1");
        });
        sentence("and what was paid for it;", () -> {
            rows(TOUR + "; tour(0, 5) -> 0; book(0, 3); tour(0, 5) -> 30; book(0, 2); tour(0, 5) -> 50; leave(0, 1); "
                + "tour(0, 5) -> 40; cancel(0) -> 40; tour(0, 5) -> 0");
            rows("2 x " + TOUR + "; book(0, 3); book(1, 4); tour(0, 5) -> 30; tour(1, 5) -> 40; merge(0, 1); "
                + "tour(0, 5) -> 0; tour(1, 5) -> 70");
            rows("addGuide(2, 30); " + TOUR + "; book(0, 3); lead(0, 0); pass(21) -> 1; tour(0, 5) -> 30");
        });
    }

    private static void ratiosAndRopes() {
        sentence("The ratio of a guide on a tour is the base of its slope", () -> {
            String[] slopes = {"0.0", "15.0-", "15.0", "30.0-", "30.0", "45.0-", "45.0", "60.0"};
            int[] bases = {7, 7, 5, 5, 3, 3, 1, 1};
            for (int i = 0; i < slopes.length; i++) {
                rows("addGuide(2, 9); addTour(5, " + slopes[i] + ", 1, 0); lead(0, 0) -> " + bases[i] + "; tour(0, 9) -> "
                    + bases[i] + "; rope(0, 0, 1) -> " + bases[i]);
            }
            // Each tour goes by its own slope.
            rows("addGuide(2, 9); addTour(5, 46.0, 1, 0); addTour(6, 3.0, 1, 0); lead(0, 1) -> 7; lead(0, 0) -> 1; "
                + "rope(1, 0, 1) -> 7; rope(0, 0, 1) -> 1");
        });
        sentence("A tour has a rope for each of its guides, in their order:", () ->
            rows("addGuide(1, 9); addGuide(2, 9); addGuide(3, 9); addTour(5, 3.0, 1, 0); book(0, 12); "
                + "rope(0, 0, 0) -> NONE; lead(1, 0); rope(0, 0, 0) -> 1; rope(0, 0, 2) -> 7; rope(0, 1, 0) -> NONE; "
                + "lead(2, 0); rope(0, 0, 0) -> 1; rope(0, 1, 0) -> 2; rope(0, 1, 2) -> 5; rope(0, 2, 0) -> NONE; "
                + "lead(0, 0); rope(0, 2, 0) -> 0; rope(0, 2, 2) -> 0; rope(0, 3, 0) -> NONE; release(1, 0) -> 0; "
                + "rope(0, 0, 0) -> 2; rope(0, 0, 2) -> 8; rope(0, 1, 0) -> 0; rope(0, 1, 2) -> 4; rope(0, 2, 0) -> NONE"));
    }

    private static void leaving() {
        in("MONEY");
        sentence("If guests leave a tour", () -> {
            rows(TOUR + "; book(0, 5); leave(0, 2) -> 20; tour(0, 3) -> 3; tour(0, 5) -> 30; count(8) -> 30; "
                + "count(9) -> 20");
            // Others who come later pay the whole price, and those who stay leave no part behind.
            rows("addTour(5, 0.0, 10, 0); book(0, 4); leave(0, 2) -> 10; tour(0, 5) -> 30; book(0, 1) -> 10; "
                + "tour(0, 5) -> 40; leave(0, 3) -> 20; tour(0, 5) -> 20; tour(0, 3) -> 0");
        });
    }

    private static void errors() {
        in("ERRORS");
        sentence("Errors are reported by the constants below.", () -> {
            for (Method method : GlacierGuides.class.getDeclaredMethods()) {
                if (Modifier.isPublic(method.getModifiers()) && method.getReturnType() == int.class) {
                    dueErrorsOf(method);
                }
            }
        });
        sentence("Errors are reported", () -> {
            for (String call : new String[] {"thickness(#)", "foretold(#, 0)", "foretold(0, #)", "needed(#)"}) {
                for (String scene : OFFICES) {
                    for (String number : NUMBERS) {
                        Object answer = Office.after(scene).call(call.replace("#", number));
                        boolean fits = answer instanceof Double && !((Double) answer < 0.0);
                        Checks.dueText(call + " with " + number, fits ? "a thickness or a NaN" : String.valueOf(answer),
                            "a thickness or a NaN");
                    }
                }
            }
        });
    }

    // Each error that the document names for a method is answered by some call, and no other one by any call.
    private static void dueErrorsOf(Method method) {
        TreeSet<String> seen = new TreeSet<>();
        for (String scene : OFFICES) {
            for (String call : callsOf(method)) {
                Office office = Office.after(scene);
                for (int i = 0; i < TIMES; i++) {
                    addError(office.call(call), method.getName(), seen);
                }
            }
        }
        if (Document.isThere()) {
            Checks.dueText("the errors of " + method.getName(), seen.toString(), errorsNamedFor(method.getName()).toString());
        }
    }

    private static void addError(Object answer, String name, TreeSet<String> seen) {
        int number = answer instanceof Integer ? (Integer) answer : Integer.MIN_VALUE;
        if (number < 0 && number >= GlacierGuides.NONE) {
            seen.add(CONSTANTS.get(-1 - number));
        } else if (number < 0 && !(name.equals("perform") && number <= -100 && number >= -140)) {
            seen.add(String.valueOf(answer));
        }
    }

    // Where the document says that a method answers what others answer, it answers their errors.
    private static TreeSet<String> errorsNamedFor(String name) {
        String text = Document.textOf(Document.sectionOf(name));
        TreeSet<String> named = new TreeSet<>();
        for (String constant : CONSTANTS) {
            if (text.contains(constant)) {
                named.add(constant);
            }
        }
        Matcher others = Pattern.compile("([a-z]+)\\(\\)").matcher(text);
        while (name.equals("perform") && others.find()) {
            named.addAll(errorsNamedFor(others.group(1)));
        }
        return named;
    }

    private static List<String> callsOf(Method method) {
        List<String> calls = new ArrayList<>(List.of(method.getName() + "("));
        Class<?>[] types = method.getParameterTypes();
        for (int i = 0; i < types.length; i++) {
            List<String> longer = new ArrayList<>();
            for (String call : calls) {
                for (String value : valuesOf(types[i], types.length)) {
                    longer.add(call + (i == 0 ? "" : ", ") + value);
                }
            }
            calls = longer;
        }
        calls.replaceAll(call -> call + ")");
        return calls;
    }

    private static String[] valuesOf(Class<?> type, int parameters) {
        if (type == long.class) {
            return BITS;
        }
        if (type == char.class) {
            return CHARACTERS;
        }
        return parameters > 2 ? FEW_NUMBERS : NUMBERS;
    }

    private static void constants() {
        sentence("The constants:", () -> {
            for (String line : Document.linesOf("ERRORS")) {
                Matcher constant = Pattern.compile("`([A-Z_]+) = (-[0-9]+)`: .*").matcher(line);
                if (constant.matches()) {
                    Checks.due(constant.group(1), valueOf(constant.group(1)), Integer.parseInt(constant.group(2)));
                }
            }
            for (int i = 0; i < CONSTANTS.size(); i++) {
                Checks.due(CONSTANTS.get(i), valueOf(CONSTANTS.get(i)), -1 - i);
            }
        });
    }

    private static int valueOf(String constant) {
        try {
            return GlacierGuides.class.getField(constant).getInt(null);
        } catch (ReflectiveOperationException e) {
            return Integer.MIN_VALUE;
        }
    }

    private static void headings() {
        heading("Ahead of the calls `addGuide`, `renew`, `addBridge`, `setTemperature` the interface says: "
            + "---- guides, bridges, weather.");
        heading("Ahead of the calls `addTour`, `book`, `leave`, `lead`, `release`, `merge`, `cancel`, `pass` "
            + "the interface says: ---- tours.");
        heading("Ahead of the calls `type`, `clearText`, `perform` the interface says: ---- texts.");
        heading("Ahead of the calls `undo`, `keep`, `restore` the interface says: ---- history.");
        heading("Ahead of the calls `guide`, `tour`, `rope`, `thickness`, `foretold`, `needed`, `holds`, `bestGuide`, "
            + "`takes`, `count`, `temperature` the interface says: ---- what is told.");
    }

    private static void heading(String words) {
        sentence(words, () -> {
            String names = words.substring("Ahead of the calls ".length(), words.indexOf(" the interface"));
            String says = words.substring(words.indexOf("----"), words.length() - 1);
            Checks.dueText(says, callsBehind("    // " + says).toString(), "[" + names.replace("`", "") + "]");
        });
    }

    // The public methods of the program from this line up to the next heading.
    private static List<String> callsBehind(String heading) {
        List<String> calls = new ArrayList<>();
        boolean behind = false;
        for (String line : programLines()) {
            behind = line.startsWith("    // ----") ? line.equals(heading) : behind;
            Matcher head = Pattern.compile("    public [a-z]+ ([A-Za-z]+)\\(.*").matcher(line);
            if (behind && head.matches()) {
                calls.add(head.group(1));
            }
        }
        return calls;
    }

    private static List<String> programLines() {
        try {
            return Files.readAllLines(PROGRAM);
        } catch (IOException e) {
            throw new IllegalStateException("the program cannot be read", e);
        }
    }

    private static void numbersOfGuidesAndTours() {
        in("Promise 20: guide");
        sentence("Returns the number;", () ->
            rows("addGuide(1, 9); addGuide(3, 25); addTour(0, 3.0, 1, 0); addTour(1, 3.0, 1, 0); 3 x " + TOUR
                + "; book(0, 5); book(1, 4); lead(1, 0); lead(1, 1); lead(1, 4); pass(2) -> 2; guide(1, 0) -> 3; "
                + "guide(1, 1) -> 25; guide(1, 2) -> 1; guide(1, 3) -> 4; guide(1, 4) -> 2; guide(1, 5) -> 9; "
                + "guide(0, 0) -> 1; guide(0, 1) -> 9; guide(0, 2) -> 1; guide(0, 3) -> NONE; guide(0, 4) -> 0; "
                + "guide(0, 5) -> 0"));
        in("Promise 21: tour");
        sentence("Returns the number;", () ->
            rows("3 x addBridge(40.0); addGuide(2, 30); addGuide(1, 30); " + TOUR + "; addTour(25, 20.0, 700, 5); "
                + "book(1, 12); lead(0, 1); lead(1, 1); tour(1, 0) -> 25; tour(1, 1) -> 700; tour(1, 2) -> 5; "
                + "tour(1, 3) -> 12; tour(1, 4) -> 2; tour(1, 5) -> 8400; tour(1, 6) -> 0; tour(1, 7) -> NONE; "
                + "tour(1, 8) -> 3; tour(1, 9) -> 5; tour(1, 10) -> 3; cancel(1); tour(1, 5) -> 0; tour(1, 6) -> 2; "
                + "tour(1, 7) -> 4; tour(1, 8) -> 3; tour(1, 10) -> NONE"));
    }

    private static void numbersOfRopesAndCounts() {
        in("Promise 22: rope");
        sentence("Returns the number;", () ->
            rows("6 x addGuide(1, 30); addGuide(3, 30); addTour(9, 3.0, 1, 0); addTour(9, 20.0, 1, 0); book(1, 9); "
                + "lead(6, 1); lead(5, 1); rope(1, 0, 0) -> 6; rope(1, 0, 1) -> 6; rope(1, 0, 2) -> 6; "
                + "rope(1, 1, 0) -> 5; rope(1, 1, 1) -> 4; rope(1, 1, 2) -> 3; rope(0, 0, 0) -> NONE"));
        in("Promise 29: count");
        sentence("Returns the number;", () ->
            rows("4 x addGuide(2, 30); 5 x addBridge(40.0); addTour(1, 3.0, 5, 0); 6 x " + TOUR + "; book(0, 6); "
                + "lead(0, 0); book(1, 7); leave(1, 3) -> 30; pass(2) -> 1; cancel(1) -> 40; cancel(2); merge(3, 4); "
                + "book(4, 2); 12 x type(97); undo(); book(4, 1); 2 x undo(); count(0) -> 2; count(1) -> 4; "
                + "count(2) -> 5; count(3) -> 7; count(4) -> 4; count(5) -> 1; count(6) -> 2; count(7) -> 0; "
                + "count(8) -> 30; count(9) -> 70; count(10) -> 6; count(11) -> 3; count(12) -> 12; merge(3, 4); "
                + "count(4) -> 3; count(7) -> 1; count(11) -> 4"));
    }

    private static void takes() {
        in("Promise 28: takes");
        sentence("Tells whether a row that is made for certificates of just one class takes that of a guide.", () ->
            rows("addGuide(2, 9); takes(1, 0) -> 0; takes(2, 0) -> 1; takes(3, 0) -> 0; renew(0, 3, 9); "
                + "takes(2, 0) -> 0; takes(3, 0) -> 1; undo(); takes(2, 0) -> 1; takes(3, 0) -> 0"));
    }
}
