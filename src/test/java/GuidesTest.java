/** Promises 1, 2, 3, 20, 27 and 28: a new object, guides and their certificates. */
public final class GuidesTest {
    private GuidesTest() {
    }

    public static void main(String[] args) {
        newObject();
        adding();
        renewing();
        renewingChangesRopes();
        tellingOfGuides();
        tellingOfToursThatWent();
        renewingBehindToursThatWent();
        guestsLedComeBack();
        guestsLedOfNumbersThatAreGivenAgain();
        bestGuides();
        bestGuideOnSteepSlopes();
        taking();
        Checks.end();
    }

    private static void newObject() {
        GlacierGuides x = new GlacierGuides();
        for (int what = 0; what <= 12; what++) {
            Checks.due("new: count(" + what + ")", x.count(what), 0);
        }
        Checks.due("new: temperature()", x.temperature(), 0);
        Checks.due("new: guide(0, 0)", x.guide(0, 0), GlacierGuides.UNKNOWN);
        Checks.due("new: tour(0, 0)", x.tour(0, 0), GlacierGuides.UNKNOWN);
        Checks.dueNumber("new: thickness(0)", x.thickness(0), Double.NaN);
        Checks.due("new: undo()", x.undo(), GlacierGuides.NONE);
        Checks.due("new: restore()", x.restore(), GlacierGuides.NONE);
        GlacierGuides other = new GlacierGuides();
        x.addGuide(1, 1);
        x.setTemperature(Checks.bits(1.0));
        Checks.due("objects are apart: guides", other.count(1), 0);
        Checks.due("objects are apart: temperature", other.temperature(), 0);
    }

    private static void adding() {
        GlacierGuides x = new GlacierGuides();
        Checks.due("addGuide(0, 5)", x.addGuide(0, 5), GlacierGuides.BAD_VALUE);
        Checks.due("addGuide(4, 5)", x.addGuide(4, 5), GlacierGuides.BAD_VALUE);
        Checks.due("addGuide(1, -1)", x.addGuide(1, -1), GlacierGuides.BAD_VALUE);
        Checks.due("addGuide(1, 1000)", x.addGuide(1, 1000), GlacierGuides.BAD_VALUE);
        Checks.due("addGuide(MIN, MIN)", x.addGuide(Integer.MIN_VALUE, Integer.MIN_VALUE), GlacierGuides.BAD_VALUE);
        Checks.due("addGuide(MAX, MAX)", x.addGuide(Integer.MAX_VALUE, Integer.MAX_VALUE), GlacierGuides.BAD_VALUE);
        Checks.due("no guide was added", x.count(1), 0);
        Checks.due("no act was recorded", x.count(11), 0);
        Checks.due("addGuide(1, 0)", x.addGuide(1, 0), 0);
        Checks.due("addGuide(3, 999)", x.addGuide(3, 999), 1);
        for (int i = 2; i < 8; i++) {
            Checks.due("addGuide(2, i)", x.addGuide(2, i), i);
        }
        Checks.due("BAD_VALUE is before FULL", x.addGuide(4, 0), GlacierGuides.BAD_VALUE);
        Checks.due("BAD_VALUE is before FULL", x.addGuide(1, 1000), GlacierGuides.BAD_VALUE);
        String before = Checks.told(x);
        Checks.due("a ninth guide", x.addGuide(1, 0), GlacierGuides.FULL);
        Checks.unchanged(x, before, 5, 0, "a ninth guide");
        Checks.due("guide(0, 0)", x.guide(0, 0), 1);
        Checks.due("guide(0, 1)", x.guide(0, 1), 0);
        Checks.due("guide(1, 0)", x.guide(1, 0), 3);
        Checks.due("guide(1, 1)", x.guide(1, 1), 999);
        Checks.due("guide(7, 1)", x.guide(7, 1), 7);
        Checks.due("undo()", x.undo(), 4);
        Checks.due("guide(7, 1) undone", x.guide(7, 1), GlacierGuides.UNKNOWN);
        Checks.due("room again", x.addGuide(1, 0), 7);
    }

    private static void renewing() {
        GlacierGuides x = new GlacierGuides();
        Checks.due("renew without guides", x.renew(0, 1, 1), GlacierGuides.UNKNOWN);
        x.addGuide(1, 10);
        x.addGuide(2, 20);
        Checks.due("renew(-1, 1, 1)", x.renew(-1, 1, 1), GlacierGuides.UNKNOWN);
        Checks.due("renew(2, 1, 1)", x.renew(2, 1, 1), GlacierGuides.UNKNOWN);
        Checks.due("UNKNOWN is before BAD_VALUE", x.renew(2, 0, 1000), GlacierGuides.UNKNOWN);
        Checks.due("renew(0, 0, 1)", x.renew(0, 0, 1), GlacierGuides.BAD_VALUE);
        Checks.due("renew(0, 4, 1)", x.renew(0, 4, 1), GlacierGuides.BAD_VALUE);
        Checks.due("renew(0, 1, -1)", x.renew(0, 1, -1), GlacierGuides.BAD_VALUE);
        Checks.due("renew(0, 1, 1000)", x.renew(0, 1, 1000), GlacierGuides.BAD_VALUE);
        String before = Checks.told(x);
        Checks.due("renew to what it is", x.renew(0, 1, 10), GlacierGuides.NONE);
        Checks.unchanged(x, before, 2, 0, "renew to what it is");
        Checks.due("renew of the class alone", x.renew(0, 3, 10), 10);
        Checks.due("renew of the day alone", x.renew(0, 3, 0), 10);
        Checks.due("renew of both", x.renew(0, 2, 999), 0);
        Checks.due("guide(0, 0)", x.guide(0, 0), 2);
        Checks.due("guide(0, 1)", x.guide(0, 1), 999);
        Checks.due("the other one's class", x.guide(1, 0), 2);
        Checks.due("the other one's day", x.guide(1, 1), 20);
        Checks.due("each renewal is an act", x.count(11), 5);
        Checks.due("undo()", x.undo(), 4);
        Checks.due("guide(0, 0) undone", x.guide(0, 0), 3);
        Checks.due("guide(0, 1) undone", x.guide(0, 1), 0);
    }

    private static void renewingChangesRopes() {
        GlacierGuides x = new GlacierGuides();
        x.addGuide(1, 10);
        x.addTour(3, Checks.bits(20.0), 10, 0);
        x.book(0, 6);
        Checks.due("lead(0, 0)", x.lead(0, 0), 4);
        Checks.due("tour(0, 8)", x.tour(0, 8), 2);
        x.renew(0, 3, 10);
        Checks.due("the ratio after renew", x.rope(0, 0, 1), 6);
        Checks.due("left over after renew", x.tour(0, 8), 0);
        Checks.due("tour(0, 10)", x.tour(0, 10), 0);
        x.renew(0, 3, 2);
        Checks.due("a certificate that lapses before the tour", x.tour(0, 10), 3);
        Checks.due("is valid today", x.guide(0, 2), 1);
        Checks.due("the guide stays in the row", x.guide(0, 3), 0);
    }

    private static void tellingOfGuides() {
        GlacierGuides x = new GlacierGuides();
        x.addGuide(2, 1);
        x.addGuide(3, 50);
        Checks.due("guide(-1, 0)", x.guide(-1, 0), GlacierGuides.UNKNOWN);
        Checks.due("guide(2, 0)", x.guide(2, 0), GlacierGuides.UNKNOWN);
        Checks.due("guide(MAX, 0)", x.guide(Integer.MAX_VALUE, 0), GlacierGuides.UNKNOWN);
        Checks.due("UNKNOWN is before BAD_VALUE", x.guide(2, 6), GlacierGuides.UNKNOWN);
        Checks.due("guide(0, -1)", x.guide(0, -1), GlacierGuides.BAD_VALUE);
        Checks.due("guide(0, 6)", x.guide(0, 6), GlacierGuides.BAD_VALUE);
        Checks.due("guide(0, 2) on day 0", x.guide(0, 2), 1);
        x.pass(1);
        Checks.due("guide(0, 2) on its last day", x.guide(0, 2), 1);
        x.pass(1);
        Checks.due("guide(0, 2) behind its last day", x.guide(0, 2), 0);
        Checks.due("guide(1, 3) without a tour", x.guide(1, 3), GlacierGuides.NONE);
        for (int day = 10; day < 13; day++) {
            x.addTour(day, 0L, 5, 0);
        }
        x.lead(1, 2);
        Checks.due("guide(1, 3) with one tour", x.guide(1, 3), 2);
        x.lead(1, 0);
        x.lead(1, 1);
        Checks.due("guide(1, 3) with three tours", x.guide(1, 3), 0);
        x.cancel(0);
        Checks.due("guide(1, 3): only open tours", x.guide(1, 3), 1);
        x.release(1, 1);
        Checks.due("guide(1, 3): released", x.guide(1, 3), 2);
        Checks.due("guide(1, 4): none went", x.guide(1, 4), 0);
        Checks.due("guide(1, 5): none went", x.guide(1, 5), 0);
    }

    private static void tellingOfToursThatWent() {
        GlacierGuides x = new GlacierGuides();
        x.addGuide(1, 100);
        x.addGuide(2, 100);
        x.addGuide(3, 100);
        x.addTour(0, Checks.bits(40.0), 5, 0);
        x.book(0, 5);
        x.lead(1, 0);
        x.lead(2, 0);
        x.lead(0, 0);
        x.addTour(1, Checks.bits(50.0), 5, 0);
        x.book(1, 2);
        x.lead(2, 1);
        x.addTour(2, 0L, 5, 0);
        x.book(2, 3);
        x.lead(2, 2);
        x.cancel(2);
        Checks.due("guide(2, 4) while the tours are open", x.guide(2, 4), 0);
        Checks.due("guide(2, 5) while the tours are open", x.guide(2, 5), 0);
        Checks.due("pass(1)", x.pass(1), 1);
        Checks.due("guide(1, 4)", x.guide(1, 4), 1);
        Checks.due("guide(1, 5)", x.guide(1, 5), 3);
        Checks.due("guide(2, 4)", x.guide(2, 4), 1);
        Checks.due("guide(2, 5)", x.guide(2, 5), 2);
        Checks.due("guide(0, 4): led with nobody on the rope", x.guide(0, 4), 1);
        Checks.due("guide(0, 5): led with nobody on the rope", x.guide(0, 5), 0);
        Checks.due("pass(5)", x.pass(5), 1);
        Checks.due("guide(2, 4) of two tours, not the cancelled one", x.guide(2, 4), 2);
        Checks.due("guide(2, 5) of two tours, not the cancelled one", x.guide(2, 5), 4);
        Checks.due("guide(2, 3): free", x.guide(2, 3), GlacierGuides.NONE);
        Checks.due("undo()", x.undo(), 4);
        Checks.due("guide(2, 4) undone", x.guide(2, 4), 1);
        Checks.due("guide(2, 5) undone", x.guide(2, 5), 2);
    }

    /** On day 0 a tour goes with 6 guests on the rope of the guide 0 and 1 on that of the guide 1. */
    private static GlacierGuides withTourThatWent() {
        GlacierGuides x = new GlacierGuides();
        x.addGuide(1, 9);
        x.addGuide(1, 9);
        x.addTour(0, 0L, 1, 0);
        x.book(0, 7);
        x.lead(0, 0);
        x.lead(1, 0);
        Checks.due("pass(1)", x.pass(1), 1);
        return x;
    }

    private static void dueLed(String when, GlacierGuides x, int guide, int tours, int guests) {
        Checks.due("guide(" + guide + ", 4) " + when, x.guide(guide, 4), tours);
        Checks.due("guide(" + guide + ", 5) " + when, x.guide(guide, 5), guests);
    }

    private static void renewingBehindToursThatWent() {
        GlacierGuides x = withTourThatWent();
        x.renew(0, 3, 9);
        dueLed("after a renewal to class 3", x, 0, 1, 6);
        dueLed("after the renewal of the one ahead of him", x, 1, 1, 1);
        Checks.due("the ratio is that of the class now", x.rope(0, 0, 1), 8);
        x.addTour(2, 0L, 1, 0);
        x.book(1, 9);
        x.lead(0, 1);
        x.lead(1, 1);
        x.renew(0, 2, 9);
        Checks.due("the second tour goes", x.pass(2), 1);
        dueLed("of a tour ahead of which he was renewed", x, 0, 2, 13);
        dueLed("of two tours", x, 1, 2, 3);
        x.renew(0, 1, 0);
        x.renew(1, 3, 0);
        dueLed("after a renewal to class 1", x, 0, 2, 13);
        dueLed("after a renewal to class 3", x, 1, 2, 3);
    }

    private static void guestsLedComeBack() {
        GlacierGuides x = withTourThatWent();
        x.keep();
        x.renew(0, 2, 9);
        x.undo();
        dueLed("when the renewal is undone", x, 0, 1, 6);
        x.undo();
        dueLed("when the day is undone", x, 0, 0, 0);
        dueLed("when the day is undone", x, 1, 0, 0);
        x.renew(0, 2, 9);
        Checks.due("pass(1)", x.pass(1), 1);
        dueLed("when he is renewed ahead of it", x, 0, 1, 7);
        dueLed("when nobody is left for him", x, 1, 1, 0);
        x.restore();
        dueLed("restored", x, 0, 1, 6);
        dueLed("restored", x, 1, 1, 1);
        x.renew(0, 3, 9);
        dueLed("restored, and renewed", x, 0, 1, 6);
        x.undo();
        x.undo();
        dueLed("when restore() is undone", x, 0, 1, 7);
    }

    private static void guestsLedOfNumbersThatAreGivenAgain() {
        GlacierGuides x = new GlacierGuides();
        x.addTour(0, 0L, 1, 0);
        x.book(0, 2);
        x.keep();
        x.addGuide(2, 9);
        x.lead(0, 0);
        x.pass(1);
        dueLed("of the first one", x, 0, 1, 2);
        x.restore();
        Checks.due("addGuide(1, 9)", x.addGuide(1, 9), 0);
        dueLed("of the one who bears his number", x, 0, 0, 0);
        x.undo();
        x.undo();
        dueLed("of the first one again", x, 0, 1, 2);
    }

    private static void bestGuides() {
        GlacierGuides x = new GlacierGuides();
        Checks.due("bestGuide without tours", x.bestGuide(0), GlacierGuides.UNKNOWN);
        x.addTour(5, 0L, 10, 0);
        x.addTour(5, 0L, 10, 0);
        Checks.due("bestGuide(-1)", x.bestGuide(-1), GlacierGuides.UNKNOWN);
        Checks.due("bestGuide(2)", x.bestGuide(2), GlacierGuides.UNKNOWN);
        Checks.due("bestGuide without guides", x.bestGuide(0), GlacierGuides.NONE);
        x.addGuide(1, 5);
        x.addGuide(2, 4);
        Checks.due("bestGuide: only those who are valid on its day", x.bestGuide(0), 0);
        x.addGuide(2, 5);
        x.addGuide(3, 9);
        x.addGuide(3, 9);
        Checks.due("bestGuide: the lowest of several", x.bestGuide(0), 3);
        x.lead(3, 1);
        Checks.due("bestGuide: not one who leads that day", x.bestGuide(0), 4);
        Checks.due("bestGuide: not one of its own row", x.bestGuide(1), 4);
        x.lead(4, 1);
        Checks.due("bestGuide: the next class", x.bestGuide(0), 2);
        x.lead(2, 0);
        Checks.due("bestGuide: the last one", x.bestGuide(0), 0);
        x.lead(0, 0);
        Checks.due("bestGuide: no one", x.bestGuide(0), GlacierGuides.NONE);
        x.cancel(1);
        Checks.due("bestGuide: free again", x.bestGuide(0), 3);
        Checks.due("bestGuide of a tour that is not open", x.bestGuide(1), GlacierGuides.NONE);
        x.lead(3, 0);
        x.lead(4, 0);
        x.addGuide(3, 9);
        Checks.due("lead() to a full row", x.lead(5, 0), GlacierGuides.FULL);
        Checks.due("bestGuide of a full row", x.bestGuide(0), GlacierGuides.NONE);
        x.release(4, 0);
        Checks.due("bestGuide with room again", x.bestGuide(0), 4);
    }

    private static void bestGuideOnSteepSlopes() {
        GlacierGuides x = new GlacierGuides();
        x.addTour(5, Checks.bits(45.0), 10, 0);
        x.addGuide(1, 5);
        x.addGuide(2, 5);
        Checks.due("class 1 and 2 are alike on a steep slope", x.bestGuide(0), 0);
        x.addGuide(3, 5);
        Checks.due("class 3 is better on a steep slope", x.bestGuide(0), 2);
        String before = Checks.told(x);
        x.bestGuide(0);
        Checks.unchanged(x, before, 4, 0, "bestGuide(0)");
    }

    private static void taking() {
        GlacierGuides x = new GlacierGuides();
        Checks.due("takes without guides", x.takes(1, 0), GlacierGuides.UNKNOWN);
        x.addGuide(1, 0);
        x.addGuide(2, 0);
        x.addGuide(3, 0);
        for (int kind = 1; kind <= 3; kind++) {
            for (int guide = 0; guide < 3; guide++) {
                Checks.due("takes(" + kind + ", " + guide + ")", x.takes(kind, guide), kind == guide + 1 ? 1 : 0);
            }
        }
        Checks.due("takes(1, 3)", x.takes(1, 3), GlacierGuides.UNKNOWN);
        Checks.due("takes(1, -1)", x.takes(1, -1), GlacierGuides.UNKNOWN);
        Checks.due("UNKNOWN is before BAD_VALUE", x.takes(0, 3), GlacierGuides.UNKNOWN);
        Checks.due("takes(0, 0)", x.takes(0, 0), GlacierGuides.BAD_VALUE);
        Checks.due("takes(4, 0)", x.takes(4, 0), GlacierGuides.BAD_VALUE);
        x.renew(0, 3, 0);
        Checks.due("takes(1, 0) after renew", x.takes(1, 0), 0);
        Checks.due("takes(3, 0) after renew", x.takes(3, 0), 1);
    }
}
