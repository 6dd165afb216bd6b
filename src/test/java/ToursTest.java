/** Promises 6 to 8, 21, 25 and 26: tours, guests, refunds for those who leave, and what bridges hold. */
public final class ToursTest {
    private ToursTest() {
    }

    public static void main(String[] args) {
        adding();
        addingWithWrongDays();
        addingWithWrongNumbers();
        addingWithWrongBridges();
        bases();
        booking();
        bookingErrors();
        leaving();
        sharesByDaysAhead();
        refundsAreCutOff();
        leavingErrors();
        paidWithoutGuests();
        tellingErrors();
        greatestRope();
        holding();
        causes();
        causeOfBridges();
        Checks.end();
    }

    private static void adding() {
        GlacierGuides x = new GlacierGuides();
        x.addBridge(Checks.bits(100.0));
        x.addBridge(Checks.bits(100.0));
        Checks.due("addTour(7, 20.0, 300, 2)", x.addTour(7, Checks.bits(20.0), 300, 2), 0);
        Checks.due("addTour(999, 60.0, 9999, 3)", x.addTour(999, Checks.bits(60.0), 9999, 3), 1);
        Checks.due("addTour(0, 0.0, 1, 0)", x.addTour(0, 0L, 1, 0), 2);
        int[][] told = {
            {7, 300, 2, 0, 0, 0, 0, GlacierGuides.NONE, 0, 5, 1},
            {999, 9999, 3, 0, 0, 0, 0, GlacierGuides.NONE, 0, 1, 1},
            {0, 1, 0, 0, 0, 0, 0, GlacierGuides.NONE, 0, 7, 1},
        };
        for (int tour = 0; tour < 3; tour++) {
            for (int what = 0; what <= 10; what++) {
                Checks.due("tour(" + tour + ", " + what + ")", x.tour(tour, what), told[tour][what]);
            }
        }
        Checks.due("each tour is an act", x.count(11), 5);
        for (int i = 3; i < 10; i++) {
            Checks.due("addTour", x.addTour(5, 0L, 10, 1), i);
        }
        Checks.due("BAD_VALUE is before FULL", x.addTour(5, 0L, 0, 1), GlacierGuides.BAD_VALUE);
        Checks.due("BAD_VALUE is before FULL", x.addTour(5, 0L, 10, 4), GlacierGuides.BAD_VALUE);
        String before = Checks.told(x);
        Checks.due("an eleventh tour", x.addTour(5, 0L, 10, 1), GlacierGuides.FULL);
        Checks.unchanged(x, before, 5, 0, "an eleventh tour");
        x.cancel(4);
        Checks.due("FULL counts those that are cancelled", x.addTour(5, 0L, 10, 1), GlacierGuides.FULL);
        x.undo();
        x.book(9, 3);
        x.undo();
        x.undo();
        Checks.due("room again", x.addTour(6, Checks.bits(15.0), 20, 2), 9);
        Checks.due("nothing stays of what was undone", x.tour(9, 3), 0);
        Checks.due("nothing stays of what was undone", x.tour(9, 5), 0);
        Checks.due("its day", x.tour(9, 0), 6);
    }

    private static void addingWithWrongDays() {
        GlacierGuides x = new GlacierGuides();
        Checks.due("addTour of yesterday", x.addTour(-1, 0L, 10, 0), GlacierGuides.BAD_VALUE);
        Checks.due("addTour of day 1000", x.addTour(1000, 0L, 10, 0), GlacierGuides.BAD_VALUE);
        Checks.due("addTour of MIN", x.addTour(Integer.MIN_VALUE, 0L, 10, 0), GlacierGuides.BAD_VALUE);
        Checks.due("addTour of MAX", x.addTour(Integer.MAX_VALUE, 0L, 10, 0), GlacierGuides.BAD_VALUE);
        Checks.due("no act was recorded", x.count(11), 0);
        x.pass(4);
        Checks.due("addTour(3) on day 4", x.addTour(3, 0L, 10, 0), GlacierGuides.BAD_VALUE);
        Checks.due("addTour(4) on day 4", x.addTour(4, 0L, 10, 0), 0);
        for (int i = 0; i < 33; i++) {
            x.pass(30);
        }
        x.pass(5);
        Checks.due("the day", x.count(0), 999);
        Checks.due("addTour on day 999", x.addTour(999, 0L, 10, 0), 1);
        x.pass(1);
        Checks.due("addTour(999) on day 1000", x.addTour(999, 0L, 10, 0), GlacierGuides.BAD_VALUE);
        Checks.due("addTour(1000) on day 1000", x.addTour(1000, 0L, 10, 0), GlacierGuides.BAD_VALUE);
    }

    private static void addingWithWrongNumbers() {
        GlacierGuides x = new GlacierGuides();
        double[] wrong = {
            -0.0, Double.NaN, Double.POSITIVE_INFINITY, Double.NEGATIVE_INFINITY, -1.0, -Double.MIN_VALUE,
            Math.nextUp(60.0), 61.0, Double.MAX_VALUE,
        };
        for (double slope : wrong) {
            Checks.due("addTour with the slope " + slope,
                x.addTour(5, Checks.bits(slope), 10, 0), GlacierGuides.BAD_VALUE);
        }
        Checks.due("a NaN", x.addTour(5, -1L, 10, 0), GlacierGuides.BAD_VALUE);
        int[] prices = {0, -1, 10000, Integer.MIN_VALUE, Integer.MAX_VALUE};
        for (int price : prices) {
            Checks.due("addTour with the price " + price, x.addTour(5, 0L, price, 0), GlacierGuides.BAD_VALUE);
        }
        Checks.due("no tour was added", x.count(3), 0);
        Checks.due("no act was recorded", x.count(11), 0);
    }

    private static void addingWithWrongBridges() {
        GlacierGuides x = new GlacierGuides();
        Checks.due("a bridge that is not there", x.addTour(5, 0L, 10, 1), GlacierGuides.BAD_VALUE);
        Checks.due("bits below zero", x.addTour(5, 0L, 10, -1), GlacierGuides.BAD_VALUE);
        Checks.due("the highest bit", x.addTour(5, 0L, 10, Integer.MIN_VALUE), GlacierGuides.BAD_VALUE);
        for (int i = 0; i < 6; i++) {
            x.addBridge(0L);
            Checks.due("all bridges", x.addTour(5, 0L, 10, (1 << i + 1) - 1), i);
            Checks.due("one more", x.addTour(5, 0L, 10, 1 << i + 1), GlacierGuides.BAD_VALUE);
            Checks.due("tour(i, 2)", x.tour(i, 2), (1 << i + 1) - 1);
        }
        Checks.due("bits below zero", x.addTour(5, 0L, 10, -1), GlacierGuides.BAD_VALUE);
    }

    private static void bases() {
        double[] slopes = {
            0.0, Math.nextDown(15.0), 15.0, Math.nextDown(30.0), 30.0, Math.nextDown(45.0), 45.0, 60.0,
            Double.MIN_VALUE,
        };
        int[] bases = {7, 7, 5, 5, 3, 3, 1, 1, 7};
        GlacierGuides x = new GlacierGuides();
        for (int i = 0; i < slopes.length; i++) {
            x.addTour(i, Checks.bits(slopes[i]), 10, 0);
            Checks.due("the base of " + slopes[i], x.tour(i, 9), bases[i]);
        }
        for (int kind = 1; kind <= 3; kind++) {
            x.addGuide(kind, 999);
            for (int i = 0; i < slopes.length; i++) {
                int ratio = Math.max(1, bases[i] + kind - 2);
                Checks.due("lead of class " + kind + " at " + slopes[i], x.lead(kind - 1, i), ratio);
                Checks.due("rope of class " + kind + " at " + slopes[i], x.rope(i, kind - 1, 1), ratio);
            }
        }
    }

    private static void booking() {
        GlacierGuides x = new GlacierGuides();
        x.addTour(5, 0L, 9999, 0);
        x.addTour(5, 0L, 7, 0);
        Checks.due("book(0, 12)", x.book(0, 12), 119988);
        Checks.due("book(1, 1)", x.book(1, 1), 7);
        Checks.due("book(1, 10)", x.book(1, 10), 70);
        Checks.due("tour(0, 3)", x.tour(0, 3), 12);
        Checks.due("tour(0, 5)", x.tour(0, 5), 119988);
        Checks.due("tour(1, 3)", x.tour(1, 3), 11);
        Checks.due("tour(1, 5)", x.tour(1, 5), 77);
        String before = Checks.told(x);
        Checks.due("book(1, 2)", x.book(1, 2), GlacierGuides.FULL);
        Checks.due("book(1, 12)", x.book(1, 12), GlacierGuides.FULL);
        Checks.unchanged(x, before, 5, 0, "book(1, 2)");
        Checks.due("book(1, 1) to 12", x.book(1, 1), 7);
        Checks.due("a thirteenth guest", x.book(1, 1), GlacierGuides.FULL);
        Checks.due("count(8)", x.count(8), 120072);
        Checks.due("count(9)", x.count(9), 0);
    }

    private static void bookingErrors() {
        GlacierGuides x = new GlacierGuides();
        Checks.due("book without tours", x.book(0, 1), GlacierGuides.UNKNOWN);
        x.addTour(5, 0L, 7, 0);
        x.addTour(5, 0L, 7, 0);
        x.book(1, 12);
        x.cancel(1);
        Checks.due("book(-1, 1)", x.book(-1, 1), GlacierGuides.UNKNOWN);
        Checks.due("book(2, 1)", x.book(2, 1), GlacierGuides.UNKNOWN);
        Checks.due("UNKNOWN is before BAD_VALUE", x.book(2, 0), GlacierGuides.UNKNOWN);
        Checks.due("book(0, 0)", x.book(0, 0), GlacierGuides.BAD_VALUE);
        Checks.due("book(0, -1)", x.book(0, -1), GlacierGuides.BAD_VALUE);
        Checks.due("book(0, 13)", x.book(0, 13), GlacierGuides.BAD_VALUE);
        Checks.due("book(0, MAX)", x.book(0, Integer.MAX_VALUE), GlacierGuides.BAD_VALUE);
        Checks.due("book(0, MIN)", x.book(0, Integer.MIN_VALUE), GlacierGuides.BAD_VALUE);
        Checks.due("BAD_VALUE is before NOT_POSSIBLE", x.book(1, 13), GlacierGuides.BAD_VALUE);
        Checks.due("NOT_POSSIBLE is before FULL", x.book(1, 1), GlacierGuides.NOT_POSSIBLE);
        x.book(0, 12);
        Checks.due("BAD_VALUE is before FULL", x.book(0, 13), GlacierGuides.BAD_VALUE);
    }

    private static void leaving() {
        GlacierGuides x = new GlacierGuides();
        x.addTour(20, 0L, 100, 0);
        x.book(0, 10);
        Checks.due("leave(0, 4)", x.leave(0, 4), 400);
        Checks.due("tour(0, 3)", x.tour(0, 3), 6);
        Checks.due("tour(0, 5)", x.tour(0, 5), 600);
        Checks.due("count(8)", x.count(8), 600);
        Checks.due("count(9)", x.count(9), 400);
        x.pass(10);
        Checks.due("leave(0, 2) ten days ahead", x.leave(0, 2), 150);
        Checks.due("tour(0, 5)", x.tour(0, 5), 450);
        Checks.due("count(9)", x.count(9), 550);
        x.pass(5);
        Checks.due("leave(0, 2) five days ahead", x.leave(0, 2), 112);
        Checks.due("tour(0, 5)", x.tour(0, 5), 338);
        x.pass(4);
        Checks.due("leave(0, 1) one day ahead", x.leave(0, 1), 0);
        Checks.due("tour(0, 3)", x.tour(0, 3), 1);
        Checks.due("tour(0, 5)", x.tour(0, 5), 338);
        Checks.due("a refund of 0 is an act", x.count(11), 5);
        Checks.due("undo()", x.undo(), 4);
        Checks.due("tour(0, 3) undone", x.tour(0, 3), 2);
        Checks.due("count(9)", x.count(9), 662);
        Checks.due("undo() of pass(4)", x.undo(), 3);
        Checks.due("undo() of leave(0, 2)", x.undo(), 2);
        Checks.due("count(9) undone", x.count(9), 550);
    }

    private static void sharesByDaysAhead() {
        int[] ahead = {15, 14, 13, 8, 7, 6, 4, 3, 2, 1, 0};
        int[] refunds = {1000, 1000, 750, 750, 750, 500, 500, 500, 0, 0, 0};
        for (int i = 0; i < ahead.length; i++) {
            GlacierGuides x = new GlacierGuides();
            x.addTour(20, 0L, 1000, 0);
            x.book(0, 1);
            if (ahead[i] < 20) {
                x.pass(20 - ahead[i]);
            }
            Checks.due("leave " + ahead[i] + " days ahead", x.leave(0, 1), refunds[i]);
            Checks.due("what stays paid", x.tour(0, 5), 1000 - refunds[i]);
        }
    }

    private static void refundsAreCutOff() {
        for (int guests = 1; guests <= 12; guests++) {
            for (int leaving = 1; leaving <= guests; leaving++) {
                GlacierGuides x = new GlacierGuides();
                x.addTour(20, 0L, 333, 0);
                x.book(0, guests);
                x.pass(10);
                int first = (int) ((double) (333 * guests) / guests * leaving * 0.75);
                Checks.due("leave " + leaving + " of " + guests, x.leave(0, leaving), first);
                if (leaving < guests) {
                    int paid = 333 * guests - first;
                    int second = (int) ((double) paid / (guests - leaving) * 1 * 0.75);
                    Checks.due("leave 1 more of " + guests, x.leave(0, 1), second);
                    Checks.due("what stays paid", x.tour(0, 5), paid - second);
                }
            }
        }
    }

    private static void leavingErrors() {
        GlacierGuides x = new GlacierGuides();
        Checks.due("leave without tours", x.leave(0, 1), GlacierGuides.UNKNOWN);
        x.addTour(20, 0L, 100, 0);
        x.addTour(20, 0L, 100, 0);
        Checks.due("leave without guests", x.leave(0, 1), GlacierGuides.NOT_POSSIBLE);
        x.book(0, 3);
        x.book(1, 3);
        x.cancel(1);
        Checks.due("leave(-1, 1)", x.leave(-1, 1), GlacierGuides.UNKNOWN);
        Checks.due("leave(2, 1)", x.leave(2, 1), GlacierGuides.UNKNOWN);
        Checks.due("UNKNOWN is before BAD_VALUE", x.leave(2, 0), GlacierGuides.UNKNOWN);
        Checks.due("leave(0, 0)", x.leave(0, 0), GlacierGuides.BAD_VALUE);
        Checks.due("leave(0, -1)", x.leave(0, -1), GlacierGuides.BAD_VALUE);
        Checks.due("leave(0, 13)", x.leave(0, 13), GlacierGuides.BAD_VALUE);
        Checks.due("BAD_VALUE is before NOT_POSSIBLE", x.leave(1, 13), GlacierGuides.BAD_VALUE);
        String before = Checks.told(x);
        Checks.due("leave(0, 4) of 3", x.leave(0, 4), GlacierGuides.NOT_POSSIBLE);
        Checks.due("leave of a cancelled tour", x.leave(1, 1), GlacierGuides.NOT_POSSIBLE);
        Checks.unchanged(x, before, 5, 0, "leave(0, 4)");
        Checks.due("leave(0, 3) of 3", x.leave(0, 3), 300);
        Checks.due("nobody is left", x.tour(0, 3), 0);
    }

    private static void paidWithoutGuests() {
        GlacierGuides x = new GlacierGuides();
        x.addTour(2, 0L, 100, 0);
        x.book(0, 4);
        Checks.due("all leave too late", x.leave(0, 4), 0);
        Checks.due("tour(0, 3)", x.tour(0, 3), 0);
        Checks.due("tour(0, 5)", x.tour(0, 5), 400);
        Checks.due("tour(0, 10)", x.tour(0, 10), 1);
        x.book(0, 1);
        Checks.due("tour(0, 5) after book", x.tour(0, 5), 500);
        Checks.due("cancel(0)", x.cancel(0), 500);
    }

    private static void tellingErrors() {
        GlacierGuides x = new GlacierGuides();
        x.addTour(5, 0L, 10, 0);
        Checks.due("tour(-1, 0)", x.tour(-1, 0), GlacierGuides.UNKNOWN);
        Checks.due("tour(1, 0)", x.tour(1, 0), GlacierGuides.UNKNOWN);
        Checks.due("tour(MIN, 0)", x.tour(Integer.MIN_VALUE, 0), GlacierGuides.UNKNOWN);
        Checks.due("UNKNOWN is before BAD_VALUE", x.tour(1, 11), GlacierGuides.UNKNOWN);
        Checks.due("tour(0, -1)", x.tour(0, -1), GlacierGuides.BAD_VALUE);
        Checks.due("tour(0, 11)", x.tour(0, 11), GlacierGuides.BAD_VALUE);
        Checks.dueNumber("needed(-1)", x.needed(-1), Double.NaN);
        Checks.dueNumber("needed(1)", x.needed(1), Double.NaN);
        Checks.due("holds without bridges", x.holds(0, 0), GlacierGuides.UNKNOWN);
        x.addBridge(Checks.bits(50.0));
        Checks.due("holds(0, 0)", x.holds(0, 0), 1);
        Checks.due("holds(0, 1)", x.holds(0, 1), GlacierGuides.UNKNOWN);
        Checks.due("holds(0, -1)", x.holds(0, -1), GlacierGuides.UNKNOWN);
        Checks.due("holds(1, 0)", x.holds(1, 0), GlacierGuides.UNKNOWN);
        Checks.due("holds(-1, 0)", x.holds(-1, 0), GlacierGuides.UNKNOWN);
    }

    private static void greatestRope() {
        GlacierGuides x = new GlacierGuides();
        x.addGuide(1, 99);
        x.addGuide(3, 99);
        x.addTour(5, Checks.bits(20.0), 10, 0);
        Checks.dueNumber("needed without ropes", x.needed(0), 17.5);
        x.book(0, 9);
        Checks.dueNumber("needed with guests, but without ropes", x.needed(0), 17.5);
        x.lead(0, 0);
        Checks.dueNumber("needed with 4 on a rope", x.needed(0), 27.5);
        x.lead(1, 0);
        Checks.due("guests on the second rope", x.rope(0, 1, 2), 5);
        Checks.dueNumber("needed with 5 on the second rope", x.needed(0), 30.0);
        x.leave(0, 3);
        Checks.dueNumber("needed with 4 on the first rope", x.needed(0), 27.5);
        x.leave(0, 6);
        Checks.dueNumber("needed with empty ropes", x.needed(0), 17.5);
        x.addTour(5, 0L, 10, 0);
        x.addGuide(3, 99);
        x.book(1, 12);
        x.lead(2, 1);
        Checks.dueNumber("needed with 8 on a rope", x.needed(1), 37.5);
    }

    private static void holding() {
        GlacierGuides x = new GlacierGuides();
        x.addGuide(2, 99);
        x.addBridge(Checks.bits(20.0));
        x.addBridge(Checks.bits(Math.nextDown(20.0)));
        x.addBridge(Checks.bits(17.5));
        x.addTour(5, 0L, 10, 0);
        Checks.due("17.5 without guests", x.holds(0, 2), 1);
        x.book(0, 1);
        Checks.due("17.5 without a rope", x.holds(0, 2), 1);
        x.lead(0, 0);
        Checks.due("20.0 with one guest on a rope", x.holds(0, 0), 1);
        Checks.due("less than 20.0", x.holds(0, 1), 0);
        Checks.due("17.5 with one guest on a rope", x.holds(0, 2), 0);
        x.book(0, 1);
        Checks.due("20.0 with two guests on a rope", x.holds(0, 0), 0);
        Checks.due("bridges that are not of the tour do not matter", x.tour(0, 10), 0);
    }

    private static void causes() {
        GlacierGuides x = new GlacierGuides();
        x.addGuide(2, 5);
        x.addGuide(2, 9);
        x.addTour(5, 0L, 10, 0);
        Checks.due("no guests", x.tour(0, 10), 1);
        x.lead(0, 0);
        Checks.due("no guests, but a guide", x.tour(0, 10), 1);
        x.book(0, 7);
        Checks.due("it would go", x.tour(0, 10), 0);
        Checks.due("tour(0, 8)", x.tour(0, 8), 0);
        x.book(0, 1);
        Checks.due("one is left over", x.tour(0, 10), 3);
        Checks.due("tour(0, 8)", x.tour(0, 8), 1);
        x.lead(1, 0);
        Checks.due("two guides", x.tour(0, 10), 0);
        x.renew(1, 2, 4);
        Checks.due("not valid on its day", x.tour(0, 10), 3);
        x.renew(1, 2, 5);
        Checks.due("valid on its day", x.tour(0, 10), 0);
        x.cancel(0);
        Checks.due("not open", x.tour(0, 10), GlacierGuides.NONE);
        Checks.due("tour(0, 6)", x.tour(0, 6), 2);
        Checks.due("tour(0, 7)", x.tour(0, 7), 4);
    }

    private static void causeOfBridges() {
        GlacierGuides x = new GlacierGuides();
        x.addGuide(2, 9);
        x.addBridge(Checks.bits(100.0));
        x.addBridge(Checks.bits(17.5));
        x.addBridge(Checks.bits(10.0));
        x.addTour(5, 0L, 10, 3);
        x.addTour(5, 0L, 10, 7);
        Checks.due("no guests is before a bridge", x.tour(1, 10), 1);
        x.book(0, 1);
        x.book(1, 1);
        Checks.due("the bridges hold, but there is no guide", x.tour(0, 10), 3);
        Checks.due("a bridge is before the guests who are left over", x.tour(1, 10), 2);
        x.lead(0, 0);
        Checks.due("the second bridge does not hold", x.tour(0, 10), 2);
        x.setTemperature(Checks.bits(-10.0));
        Checks.due("what is foretold does not matter", x.tour(0, 10), 2);
        x.pass(1);
        Checks.due("the bridges are thick enough", x.tour(0, 10), 0);
    }
}
