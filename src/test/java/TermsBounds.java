/** The boundary cases in "Terms", from numbers to tours. */
final class TermsBounds extends Bounds {
    private TermsBounds() {
    }

    static void tests() {
        whatItIs();
        numbers();
        daysAndWeather();
        guides();
        bridges();
        howManyTours();
        whatATourHas();
        whatATourIs();
        bases();
        ratios();
        ropes();
        holding();
    }

    private static void whatItIs() {
        in("What it is");
        sentence("An object is used for at most 512 calls after it has been made", () -> {
            Office office = Office.after("addTour(500, 10.0, 7, 0)");
            for (int i = 0; i < 255; i++) {
                office.play("book(0, 12) -> 84; undo() -> 1");
            }
            office.play("book(0, 11) -> 77");
        });
        sentence("what later calls answer is free", () ->
            // The history is a thing that goes round, so its last calls are as good as its first ones.
            rows("505 x pass(1); count(11) -> 5; undo() -> 4; undo() -> 3; undo() -> 2; undo() -> 1; undo() -> 0; "
                + "count(0) -> 500"));
    }

    private static void numbers() {
        in("NUMBERS");
        sentence("Slopes, thicknesses and temperatures are doubles (64 bits, IEEE 754).", () -> {
            String[] numbers = {"0.0", "0.0+", "2.2250738585072014E-308-", "2.2250738585072014E-308", "0.1", "1.0-",
                "1.0", "1.0+", "256.0-", "256.0", "499.99", "500.0-", "500.0"};
            for (String number : numbers) {
                rows("addBridge(" + number + ") -> 0; thickness(0) -> " + number + "; foretold(0, 0) -> " + number);
            }
            rows("setTemperature(0.0+); temperature() -> 0.0+; setTemperature(-0.1+); temperature() -> -0.1+");
            rows("addTour(0, 15.0-, 1, 0); tour(0, 9) -> 7; addTour(0, 30.0-, 1, 0); tour(1, 9) -> 5");
        });
        sentence("Each operation with them is done in doubles, rounded by itself, in the order in which it is written",
            () -> {
                // If 1.5 * 0.3 were not rounded before, the answer would end in 63.
                rows("addBridge(2.6666666666666665); setTemperature(0.3); foretold(0, 1) -> 2.216666666666667");
                // If 0.3 were taken off at once for two days, 1.7 would be left.
                rows("addBridge(2.0); setTemperature(0.1); foretold(0, 2) -> 1.7000000000000002; pass(2); "
                    + "thickness(0) -> 1.7000000000000002");
                // 61 / 7 * 7 is a bit less than 61, and 61 * 7 / 7 is not.
                rows(paid("14", 5, 9, 2, 8) + "; tour(0, 5) -> 61; leave(0, 7) -> 60; tour(0, 5) -> 1");
                // 12 / 9 * 7 * 0.75 is a bit less than 7 in this order alone.
                rows(paid("7", 3, 2, 6, 1) + "; tour(0, 5) -> 12; leave(0, 7) -> 6");
                // 164 / 5 * 5 * 0.75 comes to 123; with the share before the 5, or 5 * 0.75 first, to 122.
                rows(paid("7", 4, 35, 1, 24) + "; tour(0, 5) -> 164; leave(0, 5) -> 123");
            });
        sentence("whole numbers in it are converted to doubles first", () ->
            rows(paid("14", 2, 3, 1, 1) + "; tour(0, 5) -> 7; leave(0, 3) -> 7"));
        sentence("(int) drops what is behind the point.", () -> {
            rows("addTour(13, 0.0, 1, 0); book(0, 1); leave(0, 1) -> 0; tour(0, 5) -> 1");
            rows("addTour(13, 0.0, 1, 0); book(0, 4); leave(0, 2) -> 1");
            rows("addTour(13, 0.0, 5, 0); book(0, 1); leave(0, 1) -> 3");
            rows("addTour(6, 0.0, 1999, 0); book(0, 1); leave(0, 1) -> 999; count(9) -> 999");
        });
    }

    // Tour 0 with what was paid for its own guests and, at no greater price, for those of a tour merged into it.
    private static String paid(String day, int guests, int price, int others, int theirPrice) {
        return "addTour(" + day + ", 0.0, " + price + ", 0); book(0, " + guests + "); addTour(" + day + ", 0.0, "
            + theirPrice + ", 0); book(1, " + others + "); merge(1, 0) -> 0";
    }

    private static void daysAndWeather() {
        in("DAYS AND WEATHER");
        sentence("The day is 0 at first.", () -> {
            tells("", "count(0) -> 0");
            acts("", "addTour(0, 0.0, 1, 0) -> 0");
            refused("", "addTour(-1, 0.0, 1, 0) -> BAD_VALUE");
            rows("keep() -> 0");
        });
        sentence("The temperature is from -40.0 to 30.0", () -> {
            acts("", "setTemperature(-40.0) -> 1");
            acts("", "setTemperature(30.0) -> 1");
            refused("", "setTemperature(-40.0-) -> BAD_VALUE");
            refused("", "setTemperature(30.0+) -> BAD_VALUE");
            acts("", "setTemperature(-40.0+) -> 1");
            acts("", "setTemperature(30.0-) -> 1");
        });
        sentence("at first 0.0.", () -> {
            tells("", "temperature() -> 0.0");
            refused("", "setTemperature(0.0) -> NONE");
            rows("addBridge(40.0); pass(30); thickness(0) -> 40.0");
        });
    }

    private static void guides() {
        in("GUIDES");
        sentence("There are at most 8 guides, numbered from 0.", () -> {
            acts("", "addGuide(2, 9) -> 0");
            acts("7 x addGuide(2, 9)", "addGuide(2, 9) -> 7");
            refused("8 x addGuide(2, 9)", "addGuide(2, 9) -> FULL");
            rows("8 x addGuide(2, 9); count(1) -> 8; guide(7, 0) -> 2; guide(8, 0) -> UNKNOWN");
            rows("addGuide(2, 9); guide(0, 0) -> 2; guide(-1, 0) -> UNKNOWN; guide(1, 0) -> UNKNOWN");
            acts("8 x addGuide(2, 9); undo()", "addGuide(3, 7) -> 7");
        });
        sentence("A guide has a certificate of the class 1, 2 or 3", () -> {
            refused("", "addGuide(0, 9) -> BAD_VALUE");
            for (int kind = 1; kind <= 3; kind++) {
                acts("", "addGuide(" + kind + ", 9) -> 0");
                rows("addGuide(" + kind + ", 9); guide(0, 0) -> " + kind);
            }
            refused("", "addGuide(4, 9) -> BAD_VALUE");
        });
        sentence("which is valid up to a day (this one, too).", () -> {
            tells("addGuide(2, 9); pass(8)", "guide(0, 2) -> 1");
            tells("addGuide(2, 9); pass(9)", "guide(0, 2) -> 1");
            tells("addGuide(2, 9); pass(10)", "guide(0, 2) -> 0");
            acts("addGuide(2, 9); addTour(9, 0.0, 1, 0)", "lead(0, 0) -> 7");
            refused("addGuide(2, 9); addTour(10, 0.0, 1, 0)", "lead(0, 0) -> NOT_POSSIBLE");
            String led = "addGuide(2, 10); addTour(10, 0.0, 1, 0); book(0, 1); lead(0, 0)";
            acts(led + "; renew(0, 1, 10)", "pass(11) -> 1");
            acts(led + "; renew(0, 2, 9)", "pass(11) -> 0");
        });
    }

    private static void bridges() {
        in("BRIDGES");
        sentence("There are at most 6 snow bridges, numbered from 0.", () -> {
            acts("", "addBridge(9.0) -> 0");
            acts("5 x addBridge(9.0)", "addBridge(8.0) -> 5");
            refused("6 x addBridge(9.0)", "addBridge(9.0) -> FULL");
            rows("6 x addBridge(9.0); count(2) -> 6; thickness(5) -> 9.0; thickness(6) -> NaN");
            rows("addBridge(9.0); thickness(0) -> 9.0; thickness(-1) -> NaN; thickness(1) -> NaN");
            acts("6 x addBridge(9.0); undo()", "addBridge(7.0) -> 5");
        });
        sentence("A bridge has a thickness from 0.0 to 500.0.", () -> {
            acts("", "addBridge(0.0) -> 0");
            acts("", "addBridge(500.0) -> 0");
            refused("", "addBridge(0.0-) -> BAD_VALUE");
            refused("", "addBridge(500.0+) -> BAD_VALUE");
            rows("addBridge(0.0); setTemperature(30.0); pass(30); thickness(0) -> 0.0");
            rows("addBridge(500.0); setTemperature(-40.0); pass(30); thickness(0) -> 500.0");
        });
    }

    private static void howManyTours() {
        in("TOURS");
        sentence("There are at most 10 tours, numbered from 0.", () -> {
            acts("", "addTour(5, 0.0, 1, 0) -> 0");
            acts("9 x addTour(5, 0.0, 1, 0)", "addTour(5, 0.0, 1, 0) -> 9");
            refused("10 x addTour(5, 0.0, 1, 0)", "addTour(5, 0.0, 1, 0) -> FULL");
            refused("10 x addTour(5, 0.0, 1, 0); cancel(0); merge(1, 2)", "addTour(5, 0.0, 1, 0) -> FULL");
            rows("10 x addTour(5, 0.0, 1, 0); count(3) -> 10; tour(9, 0) -> 5; tour(10, 0) -> UNKNOWN");
            rows("addTour(5, 0.0, 1, 0); tour(0, 0) -> 5; tour(-1, 0) -> UNKNOWN; tour(1, 0) -> UNKNOWN");
            acts("10 x addTour(5, 0.0, 1, 0); undo()", "addTour(6, 0.0, 2, 0) -> 9");
        });
        sentence("numbered from 0.", () -> {
            // All that there may be, and the last one of each.
            String all = "8 x addGuide(2, 30); 6 x addBridge(99.0); 10 x addTour(20, 0.0, 10, 63)";
            rows(all + "; guide(7, 3) -> NONE; bestGuide(9) -> 0; holds(9, 5) -> 1; needed(9) -> 17.5; "
                + "tour(9, 10) -> 1; "
                + "lead(7, 9); book(9, 12); tour(9, 8) -> 5; lead(6, 9); guide(7, 3) -> 9; rope(9, 1, 2) -> 5; "
                + "release(7, 9) -> 5; lead(7, 9); merge(9, 8); guide(7, 3) -> 8; cancel(0); count(4) -> 8; "
                + "count(8) -> 120; "
                + "keep(); pass(21) -> 1; count(5) -> 1; count(6) -> 8; count(7) -> 1; count(10) -> 12; "
                + "guide(7, 4) -> 1; "
                + "guide(7, 5) -> 5; restore(); guide(7, 3) -> 8; count(10) -> 0");
            acts(all, "book(9, 12) -> 120");
            acts(all + "; book(9, 12)", "merge(9, 0) -> 0");
            acts(all + "; 4 x undo()", "lead(7, 5) -> 7");
        });
    }

    private static void whatATourHas() {
        sentence("a slope (0.0 to 60.0)", () -> {
            acts("", "addTour(0, 0.0, 1, 0) -> 0");
            acts("", "addTour(0, 60.0, 1, 0) -> 0");
            refused("", "addTour(0, 0.0-, 1, 0) -> BAD_VALUE");
            refused("", "addTour(0, 60.0+, 1, 0) -> BAD_VALUE");
        });
        sentence("a price (1 to 9999 pence for a guest)", () -> {
            refused("", "addTour(0, 0.0, 0, 0) -> BAD_VALUE");
            acts("", "addTour(0, 0.0, 1, 0) -> 0");
            acts("", "addTour(0, 0.0, 9999, 0) -> 0");
            refused("", "addTour(0, 0.0, 10000, 0) -> BAD_VALUE");
            acts("addTour(0, 0.0, 1, 0)", "book(0, 1) -> 1");
            acts("addTour(0, 0.0, 9999, 0)", "book(0, 12) -> 119988");
        });
        sentence("a set of bridges (as bits: the bridge b has the bit 1 << b)", () -> {
            for (int b = 0; b < 6; b++) {
                // The bridge b alone is too thin, so that just the tours with its bit are cancelled for it.
                String bridges = b + " x addBridge(99.0); addBridge(17.0); " + (5 - b) + " x addBridge(99.0)";
                String tours = "; addTour(0, 0.0, 1, " + (1 << b) + "); addTour(0, 0.0, 1, " + (63 - (1 << b))
                    + "); book(0, 1); book(1, 1)";
                tells(bridges + tours, "tour(0, 10) -> 2");
                tells(bridges + tours, "tour(1, 10) -> 3");
            }
        });
        sentence("0 to 12 guests", () -> {
            tells("addTour(5, 0.0, 1, 0)", "tour(0, 3) -> 0");
            acts("addTour(5, 0.0, 1, 0)", "book(0, 12) -> 12");
            acts("addTour(5, 0.0, 1, 0); book(0, 11)", "book(0, 1) -> 1");
            refused("addTour(5, 0.0, 1, 0); book(0, 12)", "book(0, 1) -> FULL");
            refused("addTour(5, 0.0, 1, 0)", "leave(0, 1) -> NOT_POSSIBLE");
            acts("addTour(5, 0.0, 1, 0); book(0, 12)", "leave(0, 12) -> 6");
            rows("addTour(5, 0.0, 1, 0); book(0, 12); tour(0, 3) -> 12; leave(0, 12); tour(0, 3) -> 0");
        });
        sentence("a row of 0 to 4 guides", () -> {
            String scene = "5 x addGuide(2, 9); addTour(5, 0.0, 1, 0)";
            tells(scene, "tour(0, 4) -> 0");
            refused(scene, "release(0, 0) -> NONE");
            String three = scene + "; lead(0, 0); lead(1, 0); lead(2, 0)";
            acts(three, "lead(3, 0) -> 7");
            tells(three + "; lead(3, 0)", "tour(0, 4) -> 4");
            refused(three + "; lead(3, 0)", "lead(4, 0) -> FULL");
            acts(three + "; lead(3, 0); release(1, 0)", "lead(4, 0) -> 7");
            rows(scene + "; lead(0, 0); release(0, 0); tour(0, 4) -> 0");
        });
    }

    private static void whatATourIs() {
        sentence("it is open (at first), gone, cancelled or merged.", () -> {
            String tours = "addGuide(2, 9); 2 x addTour(5, 0.0, 1, 0); book(0, 1); lead(0, 0)";
            rows(tours + "; tour(0, 6) -> 0; tour(1, 6) -> 0; count(4) -> 2");
            rows(tours + "; pass(5); tour(0, 6) -> 0; tour(1, 6) -> 0; pass(1) -> 1; tour(0, 6) -> 1; tour(1, 6) -> 2; "
                + "count(4) -> 0; count(5) -> 1; count(6) -> 1; count(7) -> 0");
            rows(tours + "; merge(0, 1); tour(0, 6) -> 3; tour(1, 6) -> 0; count(4) -> 1; count(7) -> 1");
            rows(tours + "; merge(0, 1); pass(6) -> 1; tour(0, 6) -> 3; tour(1, 6) -> 1");
        });
        sentence("A guide in the row of a tour that is not open is free", () -> {
            String tours = "addGuide(2, 9); addTour(5, 0.0, 1, 0); book(0, 1); lead(0, 0); addTour(5, 9.0, 1, 0)";
            refused(tours, "lead(0, 1) -> NOT_POSSIBLE");
            tells(tours, "guide(0, 3) -> 0");
            acts(tours + "; cancel(0)", "lead(0, 1) -> 7");
            tells(tours + "; cancel(0)", "guide(0, 3) -> NONE");
            tells(tours + "; pass(6)", "guide(0, 3) -> NONE");
            tells(tours + "; cancel(0)", "bestGuide(1) -> 0");
        });
        sentence("a tour that is gone or cancelled keeps its guests and its row.", () -> {
            String tour = "addGuide(1, 9); addGuide(3, 9); addTour(5, 0.0, 10, 0); book(0, 7); lead(1, 0); lead(0, 0)";
            String kept = "; tour(0, 3) -> 7; tour(0, 4) -> 2; rope(0, 0, 0) -> 1; rope(0, 1, 0) -> 0; "
                + "rope(0, 0, 2) -> 7; rope(0, 1, 2) -> 0; rope(0, 2, 0) -> NONE";
            rows(tour + "; pass(6) -> 1" + kept + "; tour(0, 6) -> 1");
            rows(tour + "; cancel(0) -> 70" + kept + "; tour(0, 6) -> 2");
            rows(tour + "; renew(0, 1, 4); pass(6) -> 0" + kept + "; tour(0, 6) -> 2; tour(0, 7) -> 3");
        });
    }

    private static void bases() {
        sentence("The base of a slope is 7 if it is less than 15.0", () -> {
            tells("addTour(0, 0.0, 1, 0)", "tour(0, 9) -> 7");
            tells("addTour(0, 15.0-, 1, 0)", "tour(0, 9) -> 7");
        });
        sentence("otherwise 5 if it is less than 30.0", () -> {
            tells("addTour(0, 15.0, 1, 0)", "tour(0, 9) -> 5");
            tells("addTour(0, 30.0-, 1, 0)", "tour(0, 9) -> 5");
        });
        sentence("otherwise 3 if it is less than 45.0", () -> {
            tells("addTour(0, 30.0, 1, 0)", "tour(0, 9) -> 3");
            tells("addTour(0, 45.0-, 1, 0)", "tour(0, 9) -> 3");
        });
        sentence("otherwise 1.", () -> {
            tells("addTour(0, 45.0, 1, 0)", "tour(0, 9) -> 1");
            tells("addTour(0, 60.0, 1, 0)", "tour(0, 9) -> 1");
        });
    }

    private static void ratios() {
        sentence("plus the class of the guide, minus 2, but at least 1.", () -> {
            String[] slopes = {"0.0", "15.0", "30.0", "45.0"};
            int[][] ratios = {{6, 7, 8}, {4, 5, 6}, {2, 3, 4}, {1, 1, 2}};
            for (int i = 0; i < 4; i++) {
                for (int kind = 1; kind <= 3; kind++) {
                    String scene = "addGuide(" + kind + ", 9); addTour(5, " + slopes[i] + ", 1, 0); book(0, 12)";
                    acts(scene, "lead(0, 0) -> " + ratios[i][kind - 1]);
                    tells(scene + "; lead(0, 0)", "rope(0, 0, 1) -> " + ratios[i][kind - 1]);
                    tells(scene + "; lead(0, 0)", "rope(0, 0, 2) -> " + ratios[i][kind - 1]);
                }
            }
        });
    }

    private static void ropes() {
        sentence("the first one takes as many guests as its ratio allows, the next one of those that are left, and so on.",
            () -> {
                String scene = "addGuide(1, 9); addGuide(2, 9); addGuide(3, 9); addTour(5, 30.0, 1, 0); lead(2, 0); "
                    + "lead(0, 0); lead(1, 0)";
                int[][] taken = {{0, 0, 0}, {1, 0, 0}, {3, 0, 0}, {4, 0, 0}, {4, 1, 0}, {4, 2, 0}, {4, 2, 1},
                    {4, 2, 3}, {4, 2, 3}};
                int[] guests = {0, 1, 3, 4, 5, 6, 7, 9, 12};
                for (int i = 0; i < guests.length; i++) {
                    String booked = guests[i] == 0 ? scene : scene + "; book(0, " + guests[i] + ")";
                    for (int place = 0; place < 3; place++) {
                        rows(booked + "; rope(0, " + place + ", 2) -> " + taken[i][place]);
                    }
                }
            });
        sentence("The guests for whom there is no place on a rope are left over.", () -> {
            tells("addTour(5, 45.0, 1, 0)", "tour(0, 8) -> 0");
            tells("addTour(5, 45.0, 1, 0); book(0, 12)", "tour(0, 8) -> 12");
            String led = "addGuide(3, 9); addGuide(2, 9); addTour(5, 45.0, 1, 0); lead(0, 0); lead(1, 0)";
            tells(led, "tour(0, 8) -> 0");
            tells(led + "; book(0, 2)", "tour(0, 8) -> 0");
            tells(led + "; book(0, 3)", "tour(0, 8) -> 0");
            tells(led + "; book(0, 4)", "tour(0, 8) -> 1");
            tells(led + "; book(0, 12)", "tour(0, 8) -> 9");
        });
    }

    private static void holding() {
        sentence("A bridge holds a tour if its thickness is at least 15.0 + 2.5 * p", () -> {
            String thin = "addBridge(17.5-); addBridge(17.5); addTour(0, 0.0, 1, 3)";
            tells(thin, "holds(0, 0) -> 0");
            tells(thin, "holds(0, 1) -> 1");
            String thick = "addGuide(3, 9); addBridge(37.5-); addBridge(37.5); addTour(0, 0.0, 1, 0); lead(0, 0); "
                + "book(0, 12)";
            tells(thick, "holds(0, 0) -> 0");
            tells(thick, "holds(0, 1) -> 1");
        });
        sentence("where p is 1 more than the guests on its greatest rope", () -> {
            String scene = "addGuide(3, 9); addGuide(1, 9); addTour(0, 15.0, 1, 0)";
            tells(scene + "; lead(0, 0); lead(1, 0)", "needed(0) -> 17.5");
            tells(scene + "; lead(0, 0); lead(1, 0); book(0, 1)", "needed(0) -> 20.0");
            tells(scene + "; lead(0, 0); lead(1, 0); book(0, 6)", "needed(0) -> 32.5");
            tells(scene + "; lead(0, 0); lead(1, 0); book(0, 12)", "needed(0) -> 32.5");
            tells(scene + "; lead(1, 0); lead(0, 0); book(0, 5)", "needed(0) -> 27.5");
            tells(scene + "; lead(1, 0); lead(0, 0); book(0, 8)", "needed(0) -> 27.5");
            tells(scene + "; lead(1, 0); lead(0, 0); book(0, 9)", "needed(0) -> 30.0");
            tells(scene + "; lead(1, 0); lead(0, 0); book(0, 12)", "needed(0) -> 32.5");
        });
        sentence("(p is 1 if it has no rope).", () -> {
            tells("addTour(0, 0.0, 1, 0)", "needed(0) -> 17.5");
            tells("addTour(0, 0.0, 1, 0); book(0, 12)", "needed(0) -> 17.5");
            tells("addGuide(2, 9); addTour(0, 0.0, 1, 0); book(0, 12); lead(0, 0); release(0, 0)", "needed(0) -> 17.5");
        });
    }
}
