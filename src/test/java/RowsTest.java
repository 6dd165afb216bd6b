/** Promises 9 to 12 and 22: the rows of guides, ropes, tours that are merged, and those that are cancelled. */
public final class RowsTest {
    private RowsTest() {
    }

    public static void main(String[] args) {
        leading();
        leadingErrors();
        oneTourADay();
        releasing();
        releasingErrors();
        ropes();
        ropeErrors();
        merging();
        mergingMoney();
        mergingRows();
        mergingErrors();
        mergingConditions();
        cancelling();
        Checks.end();
    }

    private static void leading() {
        GlacierGuides x = new GlacierGuides();
        x.addGuide(1, 5);
        x.addGuide(2, 5);
        x.addGuide(3, 5);
        x.addTour(5, Checks.bits(20.0), 10, 0);
        Checks.due("lead(2, 0)", x.lead(2, 0), 6);
        Checks.due("lead(0, 0) on the last day that is valid", x.lead(0, 0), 4);
        Checks.due("lead(1, 0)", x.lead(1, 0), 5);
        Checks.due("the first one", x.rope(0, 0, 0), 2);
        Checks.due("the second one", x.rope(0, 1, 0), 0);
        Checks.due("the last one", x.rope(0, 2, 0), 1);
        Checks.due("tour(0, 4)", x.tour(0, 4), 3);
        Checks.due("each is an act", x.count(11), 5);
        x.undo();
        Checks.due("tour(0, 4) undone", x.tour(0, 4), 2);
        Checks.due("rope(0, 2, 0) undone", x.rope(0, 2, 0), GlacierGuides.NONE);
    }

    private static void leadingErrors() {
        GlacierGuides x = new GlacierGuides();
        Checks.due("lead without guides and tours", x.lead(0, 0), GlacierGuides.UNKNOWN);
        for (int i = 0; i < 7; i++) {
            x.addGuide(2, i == 6 ? 4 : 9);
        }
        Checks.due("lead without tours", x.lead(0, 0), GlacierGuides.UNKNOWN);
        x.addTour(5, 0L, 10, 0);
        x.addTour(5, 0L, 10, 0);
        Checks.due("lead(-1, 0)", x.lead(-1, 0), GlacierGuides.UNKNOWN);
        Checks.due("lead(7, 0)", x.lead(7, 0), GlacierGuides.UNKNOWN);
        Checks.due("lead(0, -1)", x.lead(0, -1), GlacierGuides.UNKNOWN);
        Checks.due("lead(0, 2)", x.lead(0, 2), GlacierGuides.UNKNOWN);
        String before = Checks.told(x);
        Checks.due("a certificate that lapses before", x.lead(6, 0), GlacierGuides.NOT_POSSIBLE);
        Checks.unchanged(x, before, 5, 0, "lead(6, 0)");
        for (int i = 0; i < 4; i++) {
            x.lead(i, 0);
        }
        Checks.due("a fifth guide", x.lead(4, 0), GlacierGuides.FULL);
        Checks.due("NOT_POSSIBLE (not valid) is before FULL", x.lead(6, 0), GlacierGuides.NOT_POSSIBLE);
        Checks.due("NOT_POSSIBLE (in the row) is before FULL", x.lead(3, 0), GlacierGuides.NOT_POSSIBLE);
        x.lead(5, 1);
        Checks.due("NOT_POSSIBLE (another tour) is before FULL", x.lead(5, 0), GlacierGuides.NOT_POSSIBLE);
        x.cancel(0);
        Checks.due("a tour that is not open", x.lead(4, 0), GlacierGuides.NOT_POSSIBLE);
        Checks.due("a free guide", x.lead(0, 1), 7);
    }

    private static void oneTourADay() {
        GlacierGuides x = new GlacierGuides();
        x.addGuide(2, 9);
        x.addTour(5, 0L, 10, 0);
        x.addTour(6, 0L, 10, 0);
        x.addTour(5, 0L, 10, 0);
        Checks.due("lead(0, 2)", x.lead(0, 2), 7);
        Checks.due("twice in a row", x.lead(0, 2), GlacierGuides.NOT_POSSIBLE);
        Checks.due("another tour of the day", x.lead(0, 0), GlacierGuides.NOT_POSSIBLE);
        Checks.due("a tour of another day", x.lead(0, 1), 7);
        x.release(0, 2);
        Checks.due("released", x.lead(0, 0), 7);
        x.merge(0, 2);
        Checks.due("in the row of the other one", x.rope(2, 0, 0), 0);
        Checks.due("in the row of the other one", x.lead(0, 2), GlacierGuides.NOT_POSSIBLE);
        x.cancel(2);
        x.addTour(5, 0L, 10, 0);
        Checks.due("free, for that one is cancelled", x.lead(0, 3), 7);
    }

    private static void releasing() {
        GlacierGuides x = new GlacierGuides();
        for (int i = 0; i < 4; i++) {
            x.addGuide(i % 3 + 1, 9);
        }
        x.addTour(5, Checks.bits(35.0), 10, 0);
        x.book(0, 10);
        for (int i = 0; i < 4; i++) {
            x.lead(i, 0);
        }
        Checks.due("tour(0, 8)", x.tour(0, 8), 0);
        Checks.due("release(1, 0)", x.release(1, 0), 2);
        Checks.due("tour(0, 4)", x.tour(0, 4), 3);
        Checks.due("the first one", x.rope(0, 0, 0), 0);
        Checks.due("the second one", x.rope(0, 1, 0), 2);
        Checks.due("the last one", x.rope(0, 2, 0), 3);
        Checks.due("no fourth one", x.rope(0, 3, 0), GlacierGuides.NONE);
        Checks.due("release(3, 0): the last one", x.release(3, 0), 4);
        Checks.due("release(0, 0): the first one", x.release(0, 0), 6);
        Checks.due("who is left", x.rope(0, 0, 0), 2);
        Checks.due("release(2, 0)", x.release(2, 0), 10);
        Checks.due("an empty row", x.tour(0, 4), 0);
        Checks.due("each is an act", x.count(11), 5);
        x.undo();
        Checks.due("undone", x.rope(0, 0, 0), 2);
        Checks.due("a guide comes to the end of the row", x.lead(1, 0), 3);
        Checks.due("a guide comes to the end of the row", x.rope(0, 1, 0), 1);
    }

    private static void releasingErrors() {
        GlacierGuides x = new GlacierGuides();
        x.addGuide(1, 9);
        x.addGuide(1, 9);
        x.addTour(5, 0L, 10, 0);
        x.addTour(6, 0L, 10, 0);
        x.lead(0, 0);
        Checks.due("release(-1, 0)", x.release(-1, 0), GlacierGuides.UNKNOWN);
        Checks.due("release(2, 0)", x.release(2, 0), GlacierGuides.UNKNOWN);
        Checks.due("release(0, -1)", x.release(0, -1), GlacierGuides.UNKNOWN);
        Checks.due("release(0, 2)", x.release(0, 2), GlacierGuides.UNKNOWN);
        String before = Checks.told(x);
        Checks.due("not in the row", x.release(1, 0), GlacierGuides.NONE);
        Checks.due("in another row", x.release(0, 1), GlacierGuides.NONE);
        Checks.unchanged(x, before, 5, 0, "release(1, 0)");
        x.cancel(0);
        Checks.due("not open", x.release(0, 0), GlacierGuides.NOT_POSSIBLE);
        Checks.due("NOT_POSSIBLE is before NONE", x.release(1, 0), GlacierGuides.NOT_POSSIBLE);
    }

    private static void ropes() {
        GlacierGuides x = new GlacierGuides();
        x.addGuide(1, 9);
        x.addGuide(3, 9);
        x.addGuide(2, 9);
        x.addTour(5, Checks.bits(30.0), 10, 0);
        x.lead(0, 0);
        x.lead(1, 0);
        x.lead(2, 0);
        int[] ratios = {2, 4, 3};
        for (int guests = 0; guests <= 12; guests++) {
            if (guests > 0) {
                x.book(0, 1);
            }
            int left = guests;
            for (int place = 0; place < 3; place++) {
                int taken = Math.min(left, ratios[place]);
                left -= taken;
                Checks.due("rope(0, " + place + ", 0)", x.rope(0, place, 0), place);
                Checks.due("rope(0, " + place + ", 1)", x.rope(0, place, 1), ratios[place]);
                Checks.due("rope(0, " + place + ", 2) of " + guests, x.rope(0, place, 2), taken);
            }
            Checks.due("left over of " + guests, x.tour(0, 8), left);
        }
        x.cancel(0);
        Checks.due("the row of a cancelled tour", x.rope(0, 1, 0), 1);
        Checks.due("the ropes of a cancelled tour", x.rope(0, 1, 2), 4);
        Checks.due("left over of a cancelled tour", x.tour(0, 8), 3);
    }

    private static void ropeErrors() {
        GlacierGuides x = new GlacierGuides();
        Checks.due("rope without tours", x.rope(0, 0, 0), GlacierGuides.UNKNOWN);
        x.addGuide(1, 9);
        x.addTour(5, 0L, 10, 0);
        x.lead(0, 0);
        Checks.due("rope(-1, 0, 0)", x.rope(-1, 0, 0), GlacierGuides.UNKNOWN);
        Checks.due("rope(1, 0, 0)", x.rope(1, 0, 0), GlacierGuides.UNKNOWN);
        Checks.due("UNKNOWN is before BAD_VALUE", x.rope(1, -1, 3), GlacierGuides.UNKNOWN);
        Checks.due("rope(0, -1, 0)", x.rope(0, -1, 0), GlacierGuides.BAD_VALUE);
        Checks.due("rope(0, 0, -1)", x.rope(0, 0, -1), GlacierGuides.BAD_VALUE);
        Checks.due("rope(0, 0, 3)", x.rope(0, 0, 3), GlacierGuides.BAD_VALUE);
        Checks.due("BAD_VALUE is before NONE", x.rope(0, 9, 3), GlacierGuides.BAD_VALUE);
        Checks.due("rope(0, 1, 0)", x.rope(0, 1, 0), GlacierGuides.NONE);
        Checks.due("rope(0, 4, 1)", x.rope(0, 4, 1), GlacierGuides.NONE);
        Checks.due("rope(0, MAX, 2)", x.rope(0, Integer.MAX_VALUE, 2), GlacierGuides.NONE);
        Checks.due("rope(0, MIN, 2)", x.rope(0, Integer.MIN_VALUE, 2), GlacierGuides.BAD_VALUE);
    }

    private static void merging() {
        GlacierGuides x = new GlacierGuides();
        x.addBridge(Checks.bits(100.0));
        x.addBridge(Checks.bits(100.0));
        x.addGuide(1, 9);
        x.addGuide(2, 9);
        x.addTour(5, Checks.bits(20.0), 100, 3);
        x.addTour(5, Checks.bits(10.0), 80, 1);
        x.book(0, 5);
        x.book(1, 2);
        x.lead(0, 0);
        x.lead(1, 1);
        Checks.due("merge(0, 1)", x.merge(0, 1), 100);
        int[] merged = {5, 100, 3, 0, 0, 0, 3, GlacierGuides.NONE, 0, 5, GlacierGuides.NONE};
        int[] target = {5, 80, 1, 7, 2, 560, 0, GlacierGuides.NONE, 0, 7, 0};
        for (int what = 0; what <= 10; what++) {
            Checks.due("tour(0, " + what + ")", x.tour(0, what), merged[what]);
            Checks.due("tour(1, " + what + ")", x.tour(1, what), target[what]);
        }
        Checks.due("the first guide", x.rope(1, 0, 0), 1);
        Checks.due("the guide behind", x.rope(1, 1, 0), 0);
        Checks.due("no ropes", x.rope(0, 0, 0), GlacierGuides.NONE);
        Checks.due("needed of the merged one", (long) x.needed(0), 17);
        Checks.due("count(7)", x.count(7), 1);
        Checks.due("count(8)", x.count(8), 560);
        Checks.due("count(9)", x.count(9), 100);
        Checks.due("guide(0, 3)", x.guide(0, 3), 1);
        Checks.due("it is an act", x.undo(), 4);
        Checks.due("tour(0, 6) undone", x.tour(0, 6), 0);
        Checks.due("tour(0, 3) undone", x.tour(0, 3), 5);
        Checks.due("tour(1, 5) undone", x.tour(1, 5), 160);
        Checks.due("rope(0, 0, 0) undone", x.rope(0, 0, 0), 0);
        Checks.due("count(9) undone", x.count(9), 0);
    }

    private static void mergingMoney() {
        GlacierGuides x = new GlacierGuides();
        x.addTour(2, 0L, 50, 0);
        x.addTour(2, 0L, 80, 0);
        x.addTour(2, 0L, 80, 0);
        x.addTour(2, 0L, 30, 0);
        x.book(0, 3);
        x.book(1, 1);
        Checks.due("less was paid than the price", x.merge(0, 1), 0);
        Checks.due("tour(1, 5)", x.tour(1, 5), 230);
        Checks.due("tour(1, 3)", x.tour(1, 3), 4);
        Checks.due("four at 57.5 each, less than 80", x.merge(1, 2), 0);
        Checks.due("tour(2, 5)", x.tour(2, 5), 230);
        Checks.due("leave too late", x.leave(2, 1), 0);
        Checks.due("three paid 230, and the price is 30", x.merge(2, 3), 140);
        Checks.due("tour(3, 5)", x.tour(3, 5), 90);
        Checks.due("count(9)", x.count(9), 140);
        x.addTour(2, 0L, 30, 0);
        x.addTour(2, 0L, 30, 0);
        x.book(4, 2);
        Checks.due("as much was paid as the price", x.merge(4, 3), 0);
        Checks.due("tour(3, 5)", x.tour(3, 5), 150);
        Checks.due("merge without guests", x.merge(5, 3), 0);
        Checks.due("tour(5, 6)", x.tour(5, 6), 3);
        Checks.due("tour(3, 5)", x.tour(3, 5), 150);
    }

    private static void mergingRows() {
        GlacierGuides x = new GlacierGuides();
        for (int i = 0; i < 7; i++) {
            x.addGuide(2, 9);
        }
        x.addTour(5, 0L, 10, 0);
        x.addTour(5, 0L, 10, 0);
        x.addTour(5, 0L, 10, 0);
        int[] order = {3, 1, 4, 0};
        for (int guide : order) {
            x.lead(guide, 0);
        }
        x.lead(6, 1);
        x.lead(2, 1);
        Checks.due("merge(0, 1)", x.merge(0, 1), 0);
        int[] row = {6, 2, 3, 1};
        for (int place = 0; place < 4; place++) {
            Checks.due("rope(1, " + place + ", 0)", x.rope(1, place, 0), row[place]);
        }
        Checks.due("rope(1, 4, 0)", x.rope(1, 4, 0), GlacierGuides.NONE);
        Checks.due("tour(1, 4)", x.tour(1, 4), 4);
        Checks.due("guide(4, 3): free", x.guide(4, 3), GlacierGuides.NONE);
        Checks.due("guide(0, 3): free", x.guide(0, 3), GlacierGuides.NONE);
        Checks.due("guide(1, 3)", x.guide(1, 3), 1);
        Checks.due("lead(4, 2): free", x.lead(4, 2), 7);
        Checks.due("merge(2, 1) into a full row", x.merge(2, 1), 0);
        Checks.due("guide(4, 3): free again", x.guide(4, 3), GlacierGuides.NONE);
    }

    private static void mergingErrors() {
        GlacierGuides x = new GlacierGuides();
        Checks.due("merge without tours", x.merge(0, 0), GlacierGuides.UNKNOWN);
        x.addTour(5, 0L, 10, 0);
        x.addTour(5, 0L, 10, 0);
        Checks.due("merge(-1, 0)", x.merge(-1, 0), GlacierGuides.UNKNOWN);
        Checks.due("merge(0, -1)", x.merge(0, -1), GlacierGuides.UNKNOWN);
        Checks.due("merge(2, 0)", x.merge(2, 0), GlacierGuides.UNKNOWN);
        Checks.due("merge(0, 2)", x.merge(0, 2), GlacierGuides.UNKNOWN);
        Checks.due("UNKNOWN is before BAD_VALUE", x.merge(2, 2), GlacierGuides.UNKNOWN);
        Checks.due("merge(1, 1)", x.merge(1, 1), GlacierGuides.BAD_VALUE);
        x.cancel(1);
        Checks.due("BAD_VALUE is before NOT_POSSIBLE", x.merge(1, 1), GlacierGuides.BAD_VALUE);
        String before = Checks.told(x);
        Checks.due("into one that is not open", x.merge(0, 1), GlacierGuides.NOT_POSSIBLE);
        Checks.due("of one that is not open", x.merge(1, 0), GlacierGuides.NOT_POSSIBLE);
        Checks.unchanged(x, before, 3, 0, "merge(0, 1)");
    }

    private static void mergingConditions() {
        GlacierGuides x = new GlacierGuides();
        x.addBridge(Checks.bits(100.0));
        x.addBridge(Checks.bits(100.0));
        x.addTour(5, Checks.bits(20.0), 10, 1);
        x.addTour(6, Checks.bits(20.0), 10, 1);
        x.addTour(5, Checks.bits(Math.nextUp(20.0)), 10, 1);
        x.addTour(5, Checks.bits(20.0), 10, 3);
        x.addTour(5, Checks.bits(20.0), 10, 2);
        x.addTour(5, Checks.bits(20.0), 10, 0);
        Checks.due("another day", x.merge(0, 1), GlacierGuides.NOT_POSSIBLE);
        Checks.due("a greater slope", x.merge(0, 2), GlacierGuides.NOT_POSSIBLE);
        Checks.due("more bridges", x.merge(0, 3), GlacierGuides.NOT_POSSIBLE);
        Checks.due("another bridge", x.merge(0, 4), GlacierGuides.NOT_POSSIBLE);
        x.book(0, 7);
        x.book(3, 6);
        Checks.due("13 guests", x.merge(3, 0), GlacierGuides.NOT_POSSIBLE);
        x.leave(3, 1);
        // The one who left five days ahead got half of the price back, so 55 is paid for five guests.
        Checks.due("12 guests, the same slope, fewer bridges", x.merge(3, 0), 5);
        Checks.due("tour(0, 3)", x.tour(0, 3), 12);
        Checks.due("a smaller slope", x.merge(2, 0), 0);
        Checks.due("no bridges", x.merge(4, 5), 0);
        Checks.due("of a merged one", x.merge(4, 5), GlacierGuides.NOT_POSSIBLE);
        Checks.due("into a merged one", x.merge(5, 4), GlacierGuides.NOT_POSSIBLE);
        Checks.due("on in a chain", x.merge(0, 5), 0);
        Checks.due("tour(5, 3)", x.tour(5, 3), 12);
    }

    private static void cancelling() {
        GlacierGuides x = new GlacierGuides();
        Checks.due("cancel without tours", x.cancel(0), GlacierGuides.UNKNOWN);
        x.addGuide(3, 9);
        x.addTour(5, 0L, 100, 0);
        x.addTour(5, 0L, 70, 0);
        x.book(0, 3);
        x.book(1, 1);
        x.lead(0, 0);
        Checks.due("cancel(-1)", x.cancel(-1), GlacierGuides.UNKNOWN);
        Checks.due("cancel(2)", x.cancel(2), GlacierGuides.UNKNOWN);
        Checks.due("cancel(0)", x.cancel(0), 300);
        int[] told = {5, 100, 0, 3, 1, 0, 2, 4, 0, 7, GlacierGuides.NONE};
        for (int what = 0; what <= 10; what++) {
            Checks.due("tour(0, " + what + ")", x.tour(0, what), told[what]);
        }
        Checks.due("it stays in the row", x.rope(0, 0, 0), 0);
        Checks.due("and on its rope", x.rope(0, 0, 2), 3);
        Checks.due("it is free", x.guide(0, 3), GlacierGuides.NONE);
        Checks.due("it may lead that day", x.lead(0, 1), 8);
        Checks.due("count(6)", x.count(6), 1);
        Checks.due("count(8)", x.count(8), 70);
        Checks.due("count(9)", x.count(9), 300);
        String before = Checks.told(x);
        Checks.due("cancel(0) again", x.cancel(0), GlacierGuides.NOT_POSSIBLE);
        Checks.unchanged(x, before, 5, 0, "cancel(0) again");
        x.undo();
        x.undo();
        Checks.due("tour(0, 6) undone", x.tour(0, 6), 0);
        Checks.due("tour(0, 7) undone", x.tour(0, 7), GlacierGuides.NONE);
        Checks.due("tour(0, 5) undone", x.tour(0, 5), 300);
        x.pass(6);
        Checks.due("cancel of one that has gone", x.cancel(0), GlacierGuides.NOT_POSSIBLE);
    }
}
