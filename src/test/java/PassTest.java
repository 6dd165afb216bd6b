/** Promises 13 and 29: days that pass, and what is counted. */
public final class PassTest {
    private PassTest() {
    }

    public static void main(String[] args) {
        errors();
        theLastDay();
        toursThatGo();
        toursThatAreCancelled();
        toursBeforeWeather();
        severalDays();
        certificatesOnTheDay();
        counting();
        Checks.end();
    }

    private static void errors() {
        GlacierGuides x = new GlacierGuides();
        int[] wrong = {0, -1, 31, Integer.MIN_VALUE, Integer.MAX_VALUE};
        for (int days : wrong) {
            Checks.due("pass(" + days + ")", x.pass(days), GlacierGuides.BAD_VALUE);
        }
        Checks.due("the day", x.count(0), 0);
        Checks.due("no act was recorded", x.count(11), 0);
        Checks.due("pass(1)", x.pass(1), 0);
        Checks.due("the day", x.count(0), 1);
        Checks.due("pass(30)", x.pass(30), 0);
        Checks.due("the day", x.count(0), 31);
        Checks.due("one act for each call", x.count(11), 2);
        x.undo();
        Checks.due("the day undone", x.count(0), 1);
    }

    private static void theLastDay() {
        GlacierGuides x = new GlacierGuides();
        x.addGuide(2, 999);
        x.addTour(999, 0L, 10, 0);
        x.book(0, 1);
        x.lead(0, 0);
        for (int i = 0; i < 33; i++) {
            x.pass(30);
        }
        Checks.due("the day", x.count(0), 990);
        String before = Checks.told(x);
        Checks.due("pass(11) on day 990", x.pass(11), GlacierGuides.NOT_POSSIBLE);
        Checks.due("BAD_VALUE is before NOT_POSSIBLE", x.pass(31), GlacierGuides.BAD_VALUE);
        Checks.unchanged(x, before, 5, 0, "pass(11)");
        Checks.due("pass(10) on day 990", x.pass(10), 1);
        Checks.due("the day", x.count(0), 1000);
        Checks.due("pass(1) on day 1000", x.pass(1), GlacierGuides.NOT_POSSIBLE);
        Checks.due("valid on day 1000", x.guide(0, 2), 0);
    }

    private static void toursThatGo() {
        GlacierGuides x = new GlacierGuides();
        x.addGuide(2, 50);
        x.addBridge(Checks.bits(35.0));
        x.addTour(1, 0L, 100, 1);
        x.book(0, 7);
        x.lead(0, 0);
        Checks.due("the day before it", x.pass(1), 0);
        Checks.due("tour(0, 6) on its day", x.tour(0, 6), 0);
        Checks.due("its day passes", x.pass(1), 1);
        int[] told = {1, 100, 1, 7, 1, 700, 1, GlacierGuides.NONE, 0, 7, GlacierGuides.NONE};
        for (int what = 0; what <= 10; what++) {
            Checks.due("tour(0, " + what + ")", x.tour(0, what), told[what]);
        }
        Checks.due("count(5)", x.count(5), 1);
        Checks.due("count(8)", x.count(8), 700);
        Checks.due("count(9)", x.count(9), 0);
        Checks.due("count(10)", x.count(10), 7);
        Checks.due("book on one that has gone", x.book(0, 1), GlacierGuides.NOT_POSSIBLE);
        Checks.due("leave one that has gone", x.leave(0, 1), GlacierGuides.NOT_POSSIBLE);
        Checks.due("lead one that has gone", x.lead(0, 0), GlacierGuides.NOT_POSSIBLE);
        Checks.due("release on one that has gone", x.release(0, 0), GlacierGuides.NOT_POSSIBLE);
        Checks.due("it goes no more", x.pass(5), 0);
        x.undo();
        x.undo();
        Checks.due("tour(0, 6) undone", x.tour(0, 6), 0);
        Checks.due("count(10) undone", x.count(10), 0);
        Checks.due("the day undone", x.count(0), 1);
    }

    private static void toursThatAreCancelled() {
        GlacierGuides x = new GlacierGuides();
        x.addGuide(2, 50);
        x.addGuide(2, 50);
        x.addBridge(Checks.bits(30.0));
        x.addTour(0, 0L, 100, 1);
        x.addTour(0, 0L, 100, 1);
        x.addTour(0, 0L, 100, 1);
        x.addTour(0, 0L, 100, 0);
        x.addTour(1, 0L, 100, 0);
        x.book(1, 6);
        x.lead(0, 1);
        x.book(2, 3);
        x.book(3, 8);
        x.lead(1, 3);
        int[] causes = {1, 2, 3, 3};
        for (int tour = 0; tour < 4; tour++) {
            Checks.due("tour(" + tour + ", 10)", x.tour(tour, 10), causes[tour]);
        }
        Checks.due("pass(1)", x.pass(1), 0);
        for (int tour = 0; tour < 4; tour++) {
            Checks.due("tour(" + tour + ", 6)", x.tour(tour, 6), 2);
            Checks.due("tour(" + tour + ", 7)", x.tour(tour, 7), causes[tour]);
            Checks.due("tour(" + tour + ", 5)", x.tour(tour, 5), 0);
        }
        Checks.due("tour(1, 3): the guests stay", x.tour(1, 3), 6);
        Checks.due("tour(1, 4): the row stays", x.tour(1, 4), 1);
        Checks.due("tour(3, 8)", x.tour(3, 8), 1);
        Checks.due("guide(0, 3): free", x.guide(0, 3), GlacierGuides.NONE);
        Checks.due("guide(0, 4)", x.guide(0, 4), 0);
        Checks.due("tour(4, 6): not of that day", x.tour(4, 6), 0);
        Checks.due("count(6)", x.count(6), 4);
        Checks.due("count(8)", x.count(8), 0);
        Checks.due("count(9)", x.count(9), 1700);
    }

    private static void toursBeforeWeather() {
        GlacierGuides x = new GlacierGuides();
        x.addGuide(2, 50);
        x.addBridge(Checks.bits(20.0));
        x.addBridge(Checks.bits(17.5));
        x.setTemperature(Checks.bits(10.0));
        x.addTour(0, 0L, 100, 1);
        x.book(0, 1);
        x.lead(0, 0);
        Checks.due("the bridge holds before the day melts it", x.pass(1), 1);
        Checks.dueNumber("thickness(0)", x.thickness(0), 5.0);
        x.setTemperature(Checks.bits(-20.0));
        x.pass(3);
        Checks.dueNumber("thickness(0)", x.thickness(0), 20.0);
        Checks.dueNumber("thickness(1)", x.thickness(1), 17.5);
        x.addTour(4, 0L, 100, 3);
        x.book(1, 1);
        x.lead(0, 1);
        Checks.due("frost comes behind the tours", x.pass(1), 0);
        Checks.due("tour(1, 7)", x.tour(1, 7), 2);
        Checks.dueNumber("thickness(1)", x.thickness(1), 22.5);
    }

    private static void severalDays() {
        GlacierGuides x = new GlacierGuides();
        x.addGuide(2, 50);
        x.addBridge(Checks.bits(29.0));
        x.setTemperature(Checks.bits(2.0));
        for (int day = 0; day < 5; day++) {
            x.addTour(day, 0L, 10, 1);
            x.book(day, 1);
            x.lead(0, day);
        }
        Checks.due("four go until the bridge is too thin", x.pass(30), 4);
        for (int day = 0; day < 5; day++) {
            Checks.due("tour(" + day + ", 6)", x.tour(day, 6), day < 4 ? 1 : 2);
        }
        Checks.due("guide(0, 4)", x.guide(0, 4), 4);
        Checks.due("guide(0, 5)", x.guide(0, 5), 4);
        Checks.due("count(5)", x.count(5), 4);
        Checks.due("count(6)", x.count(6), 1);
        Checks.due("count(9)", x.count(9), 10);
        Checks.due("count(10)", x.count(10), 4);
        Checks.dueNumber("thickness(0)", x.thickness(0), 0.0);
        Checks.due("one undo for all days", x.undo(), 4);
        Checks.due("the day undone", x.count(0), 0);
        Checks.dueNumber("thickness(0) undone", x.thickness(0), 29.0);
    }

    private static void certificatesOnTheDay() {
        GlacierGuides x = new GlacierGuides();
        x.addGuide(2, 5);
        x.addGuide(2, 9);
        x.addTour(5, 0L, 10, 0);
        x.addTour(6, 0L, 10, 0);
        x.book(0, 1);
        x.book(1, 1);
        x.lead(0, 0);
        x.lead(1, 1);
        x.renew(0, 2, 8);
        x.lead(0, 1);
        x.renew(0, 2, 5);
        Checks.due("one goes, and one has a guide who is not valid", x.pass(8), 1);
        Checks.due("tour(0, 6)", x.tour(0, 6), 1);
        Checks.due("tour(1, 6)", x.tour(1, 6), 2);
        Checks.due("tour(1, 7)", x.tour(1, 7), 3);
    }

    private static void counting() {
        GlacierGuides x = new GlacierGuides();
        Checks.due("count(-1)", x.count(-1), GlacierGuides.BAD_VALUE);
        Checks.due("count(13)", x.count(13), GlacierGuides.BAD_VALUE);
        Checks.due("count(MAX)", x.count(Integer.MAX_VALUE), GlacierGuides.BAD_VALUE);
        Checks.due("count(MIN)", x.count(Integer.MIN_VALUE), GlacierGuides.BAD_VALUE);
        x.addGuide(3, 99);
        x.addGuide(3, 99);
        x.addBridge(Checks.bits(100.0));
        x.addBridge(Checks.bits(100.0));
        x.addBridge(Checks.bits(100.0));
        int[] days = {1, 1, 2, 2, 2, 30, 30};
        for (int day : days) {
            x.addTour(day, 0L, 100, 0);
        }
        x.book(0, 4);
        x.lead(0, 0);
        x.book(1, 2);
        x.lead(1, 1);
        x.book(2, 8);
        x.lead(0, 2);
        x.book(3, 1);
        x.book(4, 2);
        x.cancel(3);
        x.book(5, 3);
        x.leave(5, 1);
        x.merge(5, 6);
        Checks.due("pass(4)", x.pass(4), 3);
        Checks.type(x, "abc");
        int[] told = {4, 2, 3, 7, 1, 3, 2, 1, 1600, 400, 14, 5, 3};
        for (int what = 0; what < told.length; what++) {
            Checks.due("count(" + what + ")", x.count(what), told[what]);
        }
    }
}
