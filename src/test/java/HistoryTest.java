/** Promises 17, 18 and 19: undo and the snapshot; and which calls are acts. */
public final class HistoryTest {
    private HistoryTest() {
    }

    public static void main(String[] args) {
        fiveStates();
        undoOfEachAct();
        noActs();
        snapshots();
        restoring();
        deepCopies();
        numbersThatAreGivenAgain();
        nothingStays();
        Checks.end();
    }

    private static void fiveStates() {
        GlacierGuides x = new GlacierGuides();
        Checks.due("undo() without acts", x.undo(), GlacierGuides.NONE);
        for (int i = 1; i <= 8; i++) {
            x.pass(1);
            Checks.due("count(11)", x.count(11), Math.min(i, 5));
        }
        for (int i = 4; i >= 0; i--) {
            Checks.due("undo()", x.undo(), i);
            Checks.due("the day", x.count(0), 3 + i);
            Checks.due("count(11)", x.count(11), i);
        }
        Checks.due("undo() of an empty history", x.undo(), GlacierGuides.NONE);
        Checks.due("the day stays", x.count(0), 3);
        for (int i = 1; i <= 7; i++) {
            x.pass(2);
            x.pass(1);
            Checks.due("undo()", x.undo(), Math.min(i, 4));
        }
        Checks.due("the day", x.count(0), 17);
        x.undo();
        Checks.due("the day", x.count(0), 15);
    }

    private static GlacierGuides prepared() {
        GlacierGuides x = new GlacierGuides();
        x.addGuide(2, 50);
        x.addGuide(3, 60);
        x.addBridge(Checks.bits(100.0));
        x.setTemperature(Checks.bits(1.0));
        x.addTour(20, Checks.bits(20.0), 100, 1);
        x.addTour(20, Checks.bits(10.0), 90, 1);
        x.book(0, 4);
        x.lead(0, 0);
        x.keep();
        x.book(1, 2);
        return x;
    }

    private static int act(GlacierGuides x, int which) {
        switch (which) {
            case 0:
                return x.addGuide(1, 1);
            case 1:
                return x.renew(0, 3, 49);
            case 2:
                return x.addBridge(Checks.bits(3.0));
            case 3:
                return x.setTemperature(Checks.bits(-1.0));
            case 4:
                return x.addTour(3, 0L, 5, 0);
            case 5:
                return x.book(0, 3);
            case 6:
                return x.leave(0, 1);
            case 7:
                return x.lead(1, 1);
            case 8:
                return x.release(0, 0);
            case 9:
                return x.merge(0, 1);
            case 10:
                return x.cancel(0);
            case 11:
                return x.pass(30);
            case 12:
                return Checks.perform(x, "cancel 0");
            default:
                return x.restore();
        }
    }

    private static void undoOfEachAct() {
        for (int which = 0; which <= 13; which++) {
            GlacierGuides x = prepared();
            String before = Checks.told(x);
            Checks.due("the history is full", x.count(11), 5);
            int answer = act(x, which);
            Checks.due("act " + which + " is no error", answer >= 0 ? 1 : 0, 1);
            Checks.due("act " + which + " changes something", Checks.told(x).equals(before) ? 1 : 0, 0);
            Checks.due("the history stays full", x.count(11), 5);
            Checks.due("undo()", x.undo(), 4);
            Checks.dueText("undo() of act " + which, Checks.told(x), before);
            Checks.due("the same act answers the same", act(x, which), answer);
        }
    }

    private static void noActs() {
        GlacierGuides x = prepared();
        x.undo();
        x.undo();
        Checks.due("states", x.count(11), 3);
        String before = Checks.told(x);
        x.keep();
        x.type('a');
        x.clearText();
        x.perform();
        x.guide(0, 0);
        x.tour(0, 0);
        x.rope(0, 0, 0);
        x.thickness(0);
        x.foretold(0, 5);
        x.needed(0);
        x.holds(0, 0);
        x.bestGuide(0);
        x.takes(1, 0);
        x.temperature();
        Checks.due("states then", x.count(11), 3);
        Checks.dueText("what is told then", Checks.told(x), before);
    }

    private static void snapshots() {
        GlacierGuides x = new GlacierGuides();
        Checks.due("restore() without a snapshot", x.restore(), GlacierGuides.NONE);
        Checks.due("no act was recorded", x.count(11), 0);
        Checks.due("keep() on day 0", x.keep(), 0);
        Checks.due("keep() is no act", x.count(11), 0);
        x.pass(5);
        Checks.due("restore() to day 0", x.restore(), 0);
        Checks.due("the day", x.count(0), 0);
        Checks.due("restore() is an act", x.count(11), 2);
        x.pass(7);
        Checks.due("restore() again, for the snapshot stays", x.restore(), 0);
        x.pass(8);
        Checks.due("keep() on day 8", x.keep(), 8);
        x.pass(9);
        Checks.due("restore() of the newer one", x.restore(), 8);
        Checks.due("undo() of restore()", x.undo(), 4);
        Checks.due("the day", x.count(0), 17);
        Checks.due("undo() leaves the snapshot", x.restore(), 8);
    }

    private static void restoring() {
        GlacierGuides x = prepared();
        String before = Checks.told(x);
        x.keep();
        for (int which = 0; which <= 12; which++) {
            act(x, which);
        }
        Checks.due("restore()", x.restore(), 0);
        Checks.dueText("restore() of all that was done", Checks.told(x), before);
        Checks.due("the history stays", x.count(11), 5);
        Checks.due("restore() where nothing differs is an act", x.restore(), 0);
        Checks.due("undo()", x.undo(), 4);
        Checks.dueText("undo() to the same", Checks.told(x), before);
        Checks.due("undo() to what was before restore()", x.undo(), 3);
        Checks.due("the day", x.count(0), 30);
    }

    private static void deepCopies() {
        GlacierGuides x = prepared();
        x.keep();
        String kept = Checks.told(x);
        x.restore();
        x.book(0, 1);
        x.renew(0, 1, 1);
        x.release(0, 0);
        x.pass(1);
        Checks.due("restore()", x.restore(), 0);
        Checks.dueText("acts after restore() leave the snapshot as it is", Checks.told(x), kept);
        x.undo();
        x.undo();
        x.undo();
        x.lead(1, 0);
        x.pass(2);
        x.undo();
        x.undo();
        x.undo();
        Checks.due("guide(0, 0)", x.guide(0, 0), 2);
        Checks.due("tour(0, 3)", x.tour(0, 3), 5);
        Checks.due("rope(0, 0, 0)", x.rope(0, 0, 0), 0);
        x.restore();
        Checks.dueText("the snapshot stays", Checks.told(x), kept);
    }

    /** A number that is given anew bears another tour; the former one must come back whole. */
    private static void numbersThatAreGivenAgain() {
        GlacierGuides x = new GlacierGuides();
        for (int i = 0; i < 4; i++) {
            x.addGuide(2, 40 + i);
        }
        x.addBridge(Checks.bits(50.0));
        x.addTour(9, Checks.bits(20.0), 10, 0);
        x.addTour(9, Checks.bits(25.0), 11, 1);
        x.lead(2, 1);
        x.lead(1, 1);
        x.keep();
        String kept = Checks.told(x);
        x.undo();
        x.undo();
        x.undo();
        x.addTour(7, Checks.bits(10.0), 12, 0);
        x.lead(3, 1);
        x.lead(0, 1);
        x.cancel(1);
        String other = Checks.told(x);
        Checks.due("restore()", x.restore(), 0);
        Checks.dueText("restore() of the former tour", Checks.told(x), kept);
        Checks.due("25.0 into 20.0 can be merged", x.merge(1, 0), 0);
        x.undo();
        Checks.due("20.0 into 25.0 cannot be merged", x.merge(0, 1), GlacierGuides.NOT_POSSIBLE);
        x.undo();
        Checks.dueText("undo() to the other tour", Checks.told(x), other);
        x.undo();
        Checks.due("tour(1, 7) before it was cancelled", x.tour(1, 7), GlacierGuides.NONE);
        x.cancel(1);
        x.restore();
        x.pass(10);
        Checks.due("the cause of the former tour", x.tour(1, 7), 1);
        x.undo();
        x.undo();
        Checks.due("the cause of the other tour", x.tour(1, 7), 4);
    }

    private static void nothingStays() {
        GlacierGuides x = new GlacierGuides();
        x.keep();
        x.addGuide(2, 40);
        x.addBridge(Checks.bits(50.0));
        x.addTour(9, Checks.bits(20.0), 10, 1);
        x.addTour(9, Checks.bits(20.0), 10, 1);
        x.book(0, 5);
        x.lead(0, 0);
        x.book(1, 4);
        x.cancel(1);
        x.restore();
        Checks.due("guide(0, 0)", x.guide(0, 0), GlacierGuides.UNKNOWN);
        Checks.due("tour(0, 0)", x.tour(0, 0), GlacierGuides.UNKNOWN);
        Checks.dueNumber("thickness(0)", x.thickness(0), Double.NaN);
        x.addGuide(1, 30);
        x.addTour(8, Checks.bits(10.0), 11, 0);
        x.addTour(8, Checks.bits(10.0), 11, 0);
        int[] told = {8, 11, 0, 0, 0, 0, 0, GlacierGuides.NONE, 0, 7, 1};
        for (int what = 0; what < told.length; what++) {
            Checks.due("tour(0, " + what + ")", x.tour(0, what), told[what]);
            Checks.due("tour(1, " + what + ")", x.tour(1, what), told[what]);
        }
        Checks.due("guide(0, 0)", x.guide(0, 0), 1);
        Checks.due("guide(0, 1)", x.guide(0, 1), 30);
        Checks.due("lead(0, 0)", x.lead(0, 0), 6);
        Checks.due("rope(0, 0, 0)", x.rope(0, 0, 0), 0);
    }
}
