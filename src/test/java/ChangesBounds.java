/** The boundary cases in "Terms" of days that pass, of money and of merging. */
final class ChangesBounds extends Bounds {
    private static final String LED = "addGuide(2, 9); addTour(5, 0.0, 10, 0); book(0, 7); lead(0, 0)";

    private ChangesBounds() {
    }

    static void tests() {
        orderOfADay();
        causes();
        toursThatGo();
        warmth();
        frost();
        dayByDay();
        payments();
        shares();
        refunds();
        whatMayBeMerged();
        whatIsPaidByMerging();
        whoComesByMerging();
    }

    private static void orderOfADay() {
        in("A DAY PASSES");
        sentence("When a day passes, the following happens in this order:", () -> {
            String scene = "addGuide(2, 0); addTour(0, 0.0, 10, 1); book(0, 1); lead(0, 0)";
            // The bridge that the day melts still holds, and the one that the day's frost would mend does not.
            acts("addBridge(20.0); setTemperature(30.0); " + scene, "pass(1) -> 1");
            acts("addBridge(20.0-); setTemperature(-40.0); " + scene, "pass(1) -> 0");
            rows("addBridge(20.0-); setTemperature(-40.0); " + scene + "; pass(1); tour(0, 7) -> 2");
            rows("addBridge(100.0); setTemperature(30.0); " + scene + "; pass(1) -> 1; thickness(0) -> 55.0; "
                + "count(0) -> 1");
        });
        sentence("For each open tour of this day, by its number", () -> {
            String tours = "addTour(6, 0.0, 10, 0); addTour(5, 0.0, 10, 0); addTour(4, 0.0, 10, 0); "
                + "addTour(5, 0.0, 10, 0); addTour(5, 0.0, 10, 0); addTour(5, 0.0, 10, 0); cancel(4)";
            rows(tours + "; pass(4); count(4) -> 5; pass(1) -> 0; count(4) -> 4; tour(2, 7) -> 1; pass(1) -> 0; "
                + "count(4) -> 1; tour(0, 6) -> 0; tour(1, 7) -> 1; tour(3, 7) -> 1; tour(5, 7) -> 1; tour(4, 7) -> 4");
            rows("addGuide(2, 9); 2 x addTour(0, 0.0, 10, 0); merge(0, 1); book(1, 1); lead(0, 1); pass(1) -> 1; "
                + "tour(0, 6) -> 3; tour(0, 7) -> NONE; tour(1, 6) -> 1");
            rows(LED + "; pass(6) -> 1; pass(30) -> 0; tour(0, 6) -> 1; count(10) -> 7");
        });
    }

    private static void causes() {
        String all = "addGuide(1, 9); addGuide(2, 9); addBridge(17.5-); addTour(5, 0.0, 10, 1); lead(0, 0); lead(1, 0)";
        sentence("it is cancelled for the first of these causes that holds: 1 it has no guests;", () -> {
            String first = all + "; renew(1, 2, 4)";
            tells(first, "tour(0, 10) -> 1");
            rows(first + "; pass(6) -> 0; tour(0, 7) -> 1");
            rows(LED + "; leave(0, 7); tour(0, 10) -> 1; pass(6) -> 0; tour(0, 7) -> 1");
            rows(LED + "; leave(0, 6); tour(0, 10) -> 0; pass(6) -> 1; tour(0, 7) -> NONE");
        });
        sentence("2 a bridge of its set does not hold it;", () -> {
            String second = all + "; renew(0, 1, 4); release(1, 0); book(0, 12)";
            tells(second, "tour(0, 10) -> 2");
            rows(second + "; pass(6) -> 0; tour(0, 7) -> 2");
            String bridges = "addBridge(99.0); addBridge(35.0-); addBridge(35.0); addGuide(2, 9); "
                + "addTour(5, 0.0, 10, 5); addTour(6, 0.0, 10, 2)";
            String led = bridges + "; book(0, 7); book(1, 7); lead(0, 0); lead(0, 1)";
            tells(led, "tour(0, 10) -> 0");
            tells(led, "tour(1, 10) -> 2");
            rows(led + "; pass(7) -> 1; tour(0, 6) -> 1; tour(1, 7) -> 2");
        });
        sentence("3 guests are left over", () -> {
            tells(LED, "tour(0, 10) -> 0");
            tells(LED + "; book(0, 1)", "tour(0, 10) -> 3");
            rows(LED + "; book(0, 1); pass(6) -> 0; tour(0, 7) -> 3");
            tells("addTour(5, 0.0, 10, 0); book(0, 1)", "tour(0, 10) -> 3");
        });
        sentence("or the certificate of one of its guides is not valid on this day.", () -> {
            String two = LED + "; addGuide(3, 9); lead(1, 0)";
            tells(two + "; renew(1, 3, 5)", "tour(0, 10) -> 0");
            tells(two + "; renew(1, 3, 4)", "tour(0, 10) -> 3");
            tells(two + "; renew(0, 2, 5)", "tour(0, 10) -> 0");
            tells(two + "; renew(0, 2, 4)", "tour(0, 10) -> 3");
            rows(two + "; renew(1, 3, 5); pass(6) -> 1; tour(0, 7) -> NONE");
            rows(two + "; renew(1, 3, 4); pass(6) -> 0; tour(0, 7) -> 3");
            // One who was released does not count any more.
            rows(two + "; renew(1, 3, 4); release(1, 0); pass(6) -> 1");
        });
    }

    private static void toursThatGo() {
        sentence("Otherwise it goes.", () -> {
            acts(LED, "pass(6) -> 1");
            acts(LED, "pass(5) -> 0");
            rows(LED + "; pass(6); tour(0, 6) -> 1; tour(0, 7) -> NONE; tour(0, 5) -> 70; count(8) -> 70; "
                + "count(9) -> 0");
        });
        sentence("What was paid for a cancelled tour is refunded.", () -> {
            rows(LED + "; book(0, 5); pass(6) -> 0; tour(0, 5) -> 0; count(8) -> 0; count(9) -> 120");
            rows("addTour(5, 0.0, 10, 0); pass(6) -> 0; tour(0, 6) -> 2; count(9) -> 0");
            // What stays paid of those who left too late is refunded, too.
            rows("addTour(1, 0.0, 10, 0); book(0, 3); leave(0, 3) -> 0; pass(2); tour(0, 7) -> 1; tour(0, 5) -> 0; "
                + "count(9) -> 30");
        });
    }

    private static void warmth() {
        sentence("Each bridge changes: if the temperature is above 0.0, its thickness becomes thickness - 1.5 * temperature",
            () -> {
                rows("6 x addBridge(100.0); setTemperature(2.0); pass(1); thickness(0) -> 97.0; thickness(5) -> 97.0");
                rows("addBridge(100.0); setTemperature(30.0); pass(1); thickness(0) -> 55.0");
                rows("addBridge(4.9E-324); setTemperature(0.0+); pass(1); thickness(0) -> 0.0");
                rows("addBridge(100.0); pass(1); thickness(0) -> 100.0");
                rows("addBridge(100.0); setTemperature(1.0); setTemperature(-0.0); pass(1); thickness(0) -> 100.0");
            });
        sentence("but 0.0 if that is less;", () -> {
            rows("addBridge(3.0); setTemperature(2.0); pass(1); thickness(0) -> 0.0");
            rows("addBridge(3.0-); setTemperature(2.0); foretold(0, 1) -> 0.0; pass(1); thickness(0) -> 0.0");
            rows("addBridge(3.0+); setTemperature(2.0); pass(1); thickness(0) -> 4.440892098500626E-16");
            rows("addBridge(0.0); setTemperature(2.0); pass(30); thickness(0) -> 0.0");
        });
    }

    private static void frost() {
        sentence("if it is below 0.0, thickness - 0.25 * temperature", () -> {
            rows("6 x addBridge(100.0); setTemperature(-2.0); pass(1); thickness(0) -> 100.5; thickness(5) -> 100.5");
            rows("addBridge(0.0); setTemperature(-40.0); pass(1); thickness(0) -> 10.0");
            rows("addBridge(0.0); setTemperature(-1.0E-323); pass(1); thickness(0) -> 0.0");
            rows("addBridge(0.0); setTemperature(-2.0E-323); pass(1); thickness(0) -> 4.9E-324");
        });
        sentence("but 500.0 if that is more.", () -> {
            rows("addBridge(490.0); setTemperature(-40.0); pass(1); thickness(0) -> 500.0");
            rows("addBridge(490.0-); setTemperature(-40.0); pass(1); thickness(0) -> 500.0-");
            rows("addBridge(490.0+); setTemperature(-40.0); foretold(0, 1) -> 500.0; pass(1); thickness(0) -> 500.0");
            rows("addBridge(500.0); setTemperature(-0.1); pass(30); thickness(0) -> 500.0");
        });
    }

    private static void dayByDay() {
        sentence("The day becomes greater by 1.", () -> {
            rows("pass(1); count(0) -> 1; pass(1); count(0) -> 2; pass(30); count(0) -> 32");
            rows("33 x pass(30); pass(9); count(0) -> 999; pass(1); count(0) -> 1000; pass(1) -> NOT_POSSIBLE");
        });
    }

    private static void payments() {
        in("MONEY");
        sentence("For each guest who is booked the price of the tour is paid.", () -> {
            rows("addTour(5, 0.0, 9999, 0); book(0, 1) -> 9999; book(0, 11) -> 109989; tour(0, 5) -> 119988; "
                + "count(8) -> 119988");
            rows("addTour(5, 0.0, 1, 0); tour(0, 5) -> 0; book(0, 12) -> 12; tour(0, 5) -> 12");
            rows("2 x addTour(5, 0.0, 7, 0); book(0, 2) -> 14; book(1, 3) -> 21; count(8) -> 35; tour(0, 5) -> 14");
        });
        sentence("the part (int) ((double) paid / guests * leaving * share) is refunded, "
            + "with what was paid and its guests before", () -> {
                String two = "addTour(10, 0.0, 100, 0); book(0, 2); leave(0, 1) -> 75; tour(0, 5) -> 125; "
                    + "tour(0, 3) -> 1";
                rows(two + "; leave(0, 1) -> 93; tour(0, 5) -> 32; tour(0, 3) -> 0");
                rows(two + "; book(0, 1); leave(0, 2) -> 168; tour(0, 5) -> 57");
                rows("addTour(10, 0.0, 100, 0); book(0, 12); leave(0, 12) -> 900; tour(0, 5) -> 300; tour(0, 3) -> 0");
            });
    }

    private static void shares() {
        String scene = "addTour(40, 0.0, 1000, 0); book(0, 2)";
        sentence("the share 1.0 if the tour is 14 days ahead or more", () -> {
            acts(scene, "leave(0, 1) -> 1000");
            acts(scene + "; pass(25)", "leave(0, 1) -> 1000");
            acts(scene + "; pass(26)", "leave(0, 1) -> 1000");
        });
        sentence("0.75 if it is 7 or more", () -> {
            acts(scene + "; pass(27)", "leave(0, 1) -> 750");
            acts(scene + "; pass(30); pass(2)", "leave(0, 1) -> 750");
            acts(scene + "; pass(30); pass(3)", "leave(0, 1) -> 750");
        });
        sentence("0.5 if it is 3 or more", () -> {
            acts(scene + "; pass(30); pass(4)", "leave(0, 1) -> 500");
            acts(scene + "; pass(30); pass(6)", "leave(0, 1) -> 500");
            acts(scene + "; pass(30); pass(7)", "leave(0, 1) -> 500");
        });
        sentence("otherwise 0.0.", () -> {
            acts(scene + "; pass(30); pass(8)", "leave(0, 1) -> 0");
            acts(scene + "; pass(30); pass(9)", "leave(0, 1) -> 0");
            acts(scene + "; pass(30); pass(10)", "leave(0, 1) -> 0");
            rows(scene + "; pass(30); pass(10); leave(0, 2) -> 0; tour(0, 3) -> 0; tour(0, 5) -> 2000");
        });
    }

    private static void refunds() {
        sentence("What is refunded is no longer paid.", () -> {
            String scene = "addTour(20, 0.0, 10, 0); addTour(20, 0.0, 4, 0); book(0, 3); book(1, 5)";
            rows(scene + "; tour(0, 5) -> 30; count(8) -> 50; count(9) -> 0");
            rows(scene + "; leave(0, 1) -> 10; tour(0, 5) -> 20; count(8) -> 40; count(9) -> 10");
            rows(scene + "; leave(0, 3) -> 30; tour(0, 5) -> 0; cancel(0) -> 0; count(9) -> 30");
            rows(scene + "; merge(0, 1) -> 18; tour(0, 5) -> 0; tour(1, 5) -> 32; count(8) -> 32; count(9) -> 18");
            rows(scene + "; cancel(0) -> 30; tour(0, 5) -> 0; count(8) -> 20; count(9) -> 30");
            rows(scene + "; pass(21); tour(0, 5) -> 0; count(8) -> 0; count(9) -> 50; undo(); count(8) -> 50; "
                + "count(9) -> 0");
        });
    }

    private static void whatMayBeMerged() {
        in("MERGING");
        sentence("A tour can be merged into another one if both are open", () -> {
            String three = "3 x addTour(5, 0.0, 1, 0)";
            acts(three, "merge(0, 1) -> 0");
            refused(three + "; cancel(0)", "merge(0, 1) -> NOT_POSSIBLE");
            refused(three + "; cancel(0)", "merge(1, 0) -> NOT_POSSIBLE");
            refused(three + "; merge(0, 2)", "merge(0, 1) -> NOT_POSSIBLE");
            refused(three + "; merge(0, 2)", "merge(1, 0) -> NOT_POSSIBLE");
            refused(three + "; pass(6)", "merge(1, 0) -> NOT_POSSIBLE");
            refused(LED + "; pass(6) -> 1; addTour(6, 0.0, 1, 0)", "merge(0, 1) -> NOT_POSSIBLE");
            refused(LED + "; pass(6) -> 1; addTour(6, 0.0, 1, 0)", "merge(1, 0) -> NOT_POSSIBLE");
        });
        sentence("and of the same day", () -> {
            String tours = "addTour(4, 0.0, 1, 0); addTour(5, 0.0, 1, 0); addTour(6, 0.0, 1, 0); addTour(5, 0.0, 1, 0)";
            refused(tours, "merge(1, 0) -> NOT_POSSIBLE");
            refused(tours, "merge(1, 2) -> NOT_POSSIBLE");
            acts(tours, "merge(1, 3) -> 0");
            acts("2 x addTour(0, 0.0, 1, 0)", "merge(0, 1) -> 0");
            acts("2 x addTour(999, 0.0, 1, 0)", "merge(0, 1) -> 0");
        });
        sentence("the slope of the other one is not greater than its own", () -> {
            String tours = "addTour(5, 20.0, 1, 0); addTour(5, 20.0, 1, 0); addTour(5, 20.0+, 1, 0); "
                + "addTour(5, 20.0-, 1, 0); addTour(5, 0.0, 1, 0); addTour(5, 60.0, 1, 0)";
            acts(tours, "merge(0, 1) -> 0");
            refused(tours, "merge(0, 2) -> NOT_POSSIBLE");
            acts(tours, "merge(0, 3) -> 0");
            acts(tours, "merge(0, 4) -> 0");
            refused(tours, "merge(0, 5) -> NOT_POSSIBLE");
            refused(tours, "merge(4, 3) -> NOT_POSSIBLE");
            acts(tours, "merge(5, 2) -> 0");
        });
        sentence("all bridges of the other one are bridges of its own, too", () -> {
            String tours = "6 x addBridge(99.0); addTour(5, 0.0, 1, 33); addTour(5, 0.0, 1, 33); "
                + "addTour(5, 0.0, 1, 32); "
                + "addTour(5, 0.0, 1, 1); addTour(5, 0.0, 1, 0); addTour(5, 0.0, 1, 34); addTour(5, 0.0, 1, 63)";
            acts(tours, "merge(0, 1) -> 0");
            acts(tours, "merge(0, 2) -> 0");
            acts(tours, "merge(0, 3) -> 0");
            acts(tours, "merge(0, 4) -> 0");
            refused(tours, "merge(0, 5) -> NOT_POSSIBLE");
            refused(tours, "merge(0, 6) -> NOT_POSSIBLE");
            refused(tours, "merge(4, 3) -> NOT_POSSIBLE");
            refused(tours, "merge(2, 3) -> NOT_POSSIBLE");
            acts(tours, "merge(6, 0) -> 0");
        });
        sentence("and both have at most 12 guests together.", () -> {
            String tours = "addTour(5, 0.0, 1, 0); addTour(5, 0.0, 1, 0)";
            acts(tours + "; book(0, 6); book(1, 6)", "merge(0, 1) -> 0");
            refused(tours + "; book(0, 7); book(1, 6)", "merge(0, 1) -> NOT_POSSIBLE");
            refused(tours + "; book(0, 6); book(1, 7)", "merge(0, 1) -> NOT_POSSIBLE");
            acts(tours + "; book(0, 12)", "merge(0, 1) -> 0");
            acts(tours + "; book(1, 12)", "merge(0, 1) -> 0");
            refused(tours + "; book(0, 1); book(1, 12)", "merge(0, 1) -> NOT_POSSIBLE");
            refused(tours + "; book(0, 12); book(1, 12)", "merge(0, 1) -> NOT_POSSIBLE");
        });
    }

    private static void whatIsPaidByMerging() {
        sentence("if more was paid for them than the price of the other one for each, the difference is refunded;", () -> {
            acts("addTour(5, 0.0, 10, 0); addTour(5, 0.0, 10, 0); book(0, 3)", "merge(0, 1) -> 0");
            acts("addTour(5, 0.0, 11, 0); addTour(5, 0.0, 10, 0); book(0, 3)", "merge(0, 1) -> 3");
            acts("addTour(5, 0.0, 9, 0); addTour(5, 0.0, 10, 0); book(0, 3)", "merge(0, 1) -> 0");
            acts("addTour(5, 0.0, 9999, 0); addTour(5, 0.0, 1, 0); book(0, 12)", "merge(0, 1) -> 119976");
            acts("addTour(5, 0.0, 9999, 0); addTour(5, 0.0, 1, 0)", "merge(0, 1) -> 0");
            // Half of the price of the one who left stays paid: 35 for three guests.
            acts("addTour(5, 0.0, 10, 0); addTour(5, 0.0, 11, 0); book(0, 4); leave(0, 1) -> 5", "merge(0, 1) -> 2");
            acts("addTour(5, 0.0, 10, 0); addTour(5, 0.0, 12, 0); book(0, 4); leave(0, 1) -> 5", "merge(0, 1) -> 0");
        });
        sentence("what is left of what was paid is paid for the other one.", () -> {
            rows("addTour(5, 0.0, 9, 0); addTour(5, 0.0, 10, 0); book(0, 3); book(1, 1); merge(0, 1) -> 0; "
                + "tour(0, 5) -> 0; tour(1, 5) -> 37; count(8) -> 37; count(9) -> 0");
            rows("addTour(5, 0.0, 11, 0); addTour(5, 0.0, 10, 0); book(0, 3); book(1, 1); merge(0, 1) -> 3; "
                + "tour(0, 5) -> 0; tour(1, 5) -> 40; count(8) -> 40; count(9) -> 3");
            rows("2 x addTour(5, 0.0, 11, 0); book(1, 1); merge(0, 1) -> 0; tour(1, 5) -> 11");
        });
    }

    private static void whoComesByMerging() {
        sentence("Its guests come to the other one;", () -> {
            rows("2 x addTour(5, 0.0, 1, 0); book(0, 12); merge(0, 1); tour(0, 3) -> 0; tour(1, 3) -> 12");
            rows("2 x addTour(5, 0.0, 1, 0); book(1, 12); merge(0, 1); tour(0, 3) -> 0; tour(1, 3) -> 12");
            rows("2 x addTour(5, 0.0, 1, 0); merge(0, 1); tour(0, 3) -> 0; tour(1, 3) -> 0");
            rows("2 x addTour(5, 0.0, 1, 0); book(0, 5); book(1, 3); merge(0, 1); tour(1, 3) -> 8; book(1, 4) -> 4; "
                + "book(1, 1) -> FULL");
        });
        String scene = "8 x addGuide(2, 9); 3 x addTour(5, 0.0, 1, 0); lead(3, 0); lead(1, 0)";
        sentence("Its guides come behind those of the other one, in their order, up to 4 in all;", () -> {
            rows(scene + "; merge(0, 1); tour(1, 4) -> 2; rope(1, 0, 0) -> 3; rope(1, 1, 0) -> 1; "
                + "rope(1, 2, 0) -> NONE");
            rows(scene + "; lead(5, 1); lead(0, 1); merge(0, 1); tour(1, 4) -> 4; rope(1, 0, 0) -> 5; "
                + "rope(1, 1, 0) -> 0; rope(1, 2, 0) -> 3; rope(1, 3, 0) -> 1");
            rows(scene + "; lead(5, 1); lead(0, 1); lead(4, 1); merge(0, 1); tour(1, 4) -> 4; rope(1, 2, 0) -> 4; "
                + "rope(1, 3, 0) -> 3; rope(1, 4, 0) -> NONE; lead(6, 1) -> FULL");
            rows(scene + "; lead(5, 1); lead(0, 1); lead(4, 1); lead(2, 1); merge(0, 1); tour(1, 4) -> 4; "
                + "rope(1, 3, 0) -> 2; rope(1, 4, 0) -> NONE");
            rows(scene + "; lead(2, 0); lead(0, 0); merge(0, 1); tour(1, 4) -> 4; rope(1, 2, 0) -> 2; "
                + "rope(1, 3, 0) -> 0");
        });
        sentence("those behind them become free.", () -> {
            String full = scene + "; lead(5, 1); lead(0, 1); lead(4, 1)";
            rows(full + "; guide(1, 3) -> 0; merge(0, 1); guide(1, 3) -> NONE; guide(3, 3) -> 1; lead(1, 2) -> 7; "
                + "lead(3, 2) -> NOT_POSSIBLE");
            rows(full + "; lead(2, 1); merge(0, 1); guide(1, 3) -> NONE; guide(3, 3) -> NONE; bestGuide(2) -> 1; "
                + "lead(3, 2) -> 7");
        });
        sentence("It has no guests and guides then.", () -> {
            rows(scene + "; book(0, 9); merge(0, 1); tour(0, 3) -> 0; tour(0, 4) -> 0; tour(0, 5) -> 0; "
                + "tour(0, 8) -> 0; "
                + "rope(0, 0, 0) -> NONE; needed(0) -> 17.5");
            rows(scene + "; lead(5, 1); lead(0, 1); lead(4, 1); merge(0, 1); tour(0, 4) -> 0; rope(0, 0, 2) -> NONE");
        });
    }
}
