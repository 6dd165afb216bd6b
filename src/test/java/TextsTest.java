/** Promises 14, 15 and 16: the text, and the commands that are read from it. */
public final class TextsTest {
    private TextsTest() {
    }

    public static void main(String[] args) {
        typing();
        clearing();
        faults();
        faultOfEachCut();
        faultOfEachCharacter();
        numbers();
        performing();
        performingIsOneAct();
        performingErrors();
        Checks.end();
    }

    private static void typing() {
        GlacierGuides x = new GlacierGuides();
        char[] some = {'a', ' ', '0', (char) 0, (char) 255, (char) 256, (char) 0x4e00, (char) 0xd800, (char) 0xffff};
        for (int i = 0; i < 40; i++) {
            Checks.due("type", x.type(some[i % some.length]), i + 1);
            Checks.due("count(12)", x.count(12), i + 1);
        }
        Checks.due("a character more", x.type('a'), GlacierGuides.FULL);
        Checks.due("and again", x.type('b'), GlacierGuides.FULL);
        Checks.due("count(12)", x.count(12), 40);
        Checks.due("typing is no act", x.count(11), 0);
        Checks.due("perform()", x.perform(), -100);
        Checks.due("clearText()", x.clearText(), 40);
        Checks.due("type again", x.type('a'), 1);
    }

    private static void clearing() {
        GlacierGuides x = new GlacierGuides();
        x.addTour(5, 0L, 10, 0);
        Checks.due("clearText() of an empty text", x.clearText(), 0);
        Checks.type(x, "book 0 1");
        Checks.due("clearText()", x.clearText(), 8);
        Checks.due("count(12)", x.count(12), 0);
        Checks.due("perform() of an empty text", x.perform(), -100);
        Checks.due("clearText() again", x.clearText(), 0);
        Checks.due("clearing is no act", x.count(11), 1);
        x.type('b');
        Checks.due("nothing stays of the old text", x.perform(), -100);
    }

    private static int onNew(String text) {
        return Checks.perform(new GlacierGuides(), text);
    }

    private static void faults() {
        String[] texts = {
            "", " ", "b", "boo", "books 0 1", "Book 0 1", " book 0 1", "bookbook", "leads 0 0", "lea 0 0", "xook 0 0",
            "mergf 0 0", "cance 0", "cancell 0", "9", "release 0 0", "undo", "b" + (char) 0xe4 + "ok 0 1",
            "book", "book ", "book  0 1", "book 0", "book 0 ", "book 0  1", "book 0 1 ", "book 0 1x", "book 0 1 2",
            "book0 1", "book-0 1", "bookX 0 1", "book\t0 1", "book 00 1", "book 01 1", "book 0 00", "book 0 01",
            "book 123 1", "book 12 123", "book 10 1", "book -1 1", "book +1 1", "book 1,1", "book 1 1.",
            "book 1 " + (char) 0x661, "book 1 " + (char) (256 + '1'), "book" + (char) 0xa0 + "1 1",
            "book" + (char) (256 + ' ') + "1 1",
            "leave", "leave 5", "leave 5 x", "merge 1 2 3", "merge 1", "lead 1 2 ", "lead 1 /", "lead 1 :",
            "cancel", "cancel ", "cancel 0 ", "cancel 0 1", "cancel 00", "cancel 123", "cancel x", "cancel 1x",
        };
        int[] faults = {
            0, 0, 0, 0, 0, 0, 0, 0, 0, 0, 0,
            0, 0, 0, 0, 0, 0, 0,
            4, 5, 5, 6, 7, 7, 8, 8, 8,
            4, 4, 4, 4, 6, 6, 8, 8,
            7, 10, -1, 5, 5, 6, 8,
            7, 7, 4,
            4,
            5, 7, 8, 9, 7, 8, 7, 7,
            6, 7, 8, 8, 8, 9, 7, 8,
        };
        Checks.due("as many texts as faults", texts.length, faults.length);
        for (int i = 0; i < texts.length; i++) {
            GlacierGuides x = new GlacierGuides();
            int due = faults[i] < 0 ? GlacierGuides.UNKNOWN : -100 - faults[i];
            Checks.due("perform() of \"" + texts[i] + "\"", Checks.perform(x, texts[i]), due);
            Checks.due("the text stays", x.count(12), texts[i].length());
            Checks.due("no act was recorded", x.count(11), 0);
        }
        Checks.due("a text of 40 characters", onNew("book 1 1" + " ".repeat(32)), -108);
        Checks.due("40 letters", onNew("b".repeat(40)), -100);
    }

    private static void faultOfEachCut() {
        String[] words = {"book", "leave", "merge", "cancel", "lead"};
        for (String word : words) {
            String text = word.equals("cancel") ? "cancel 10" : word + " 10 20";
            for (int length = 0; length < text.length(); length++) {
                int due = -100 - (length < word.length() ? 0 : length);
                // A number may have one digit, so the text is whole without its last one.
                if (length == text.length() - 1) {
                    due = GlacierGuides.UNKNOWN;
                }
                Checks.due("perform() of \"" + text.substring(0, length) + "\"",
                    onNew(text.substring(0, length)), due);
            }
            Checks.due("perform() of \"" + text + "\"", onNew(text), GlacierGuides.UNKNOWN);
        }
    }

    private static void faultOfEachCharacter() {
        for (char c = 0; c < 400; c++) {
            boolean letter = c >= 'a' && c <= 'z';
            boolean digit = c >= '0' && c <= '9';
            Checks.due("book and the character " + (int) c, onNew("book" + c),
                letter ? -100 : c == ' ' ? -105 : -104);
            Checks.due("a first digit " + (int) c, onNew("book " + c), digit ? -106 : -105);
            Checks.due("a second digit " + (int) c, onNew("book 1" + c),
                digit || c == ' ' ? -107 : -106);
            Checks.due("behind a zero " + (int) c, onNew("book 0" + c), c == ' ' ? -107 : -106);
            Checks.due("behind the end " + (int) c, onNew("cancel 10" + c), -109);
        }
    }

    private static void numbers() {
        for (int tour = 0; tour <= 99; tour++) {
            Checks.due("book " + tour + " 1", Checks.perform(withTours(), "book " + tour + " 1"),
                tour < 10 ? tour + 1 : GlacierGuides.UNKNOWN);
        }
        for (int guests = 0; guests <= 99; guests++) {
            GlacierGuides x = withTours();
            x.book(0, 1);
            int due = guests < 1 || guests > 12 ? GlacierGuides.BAD_VALUE : guests > 11 ? GlacierGuides.FULL : guests;
            Checks.due("book 0 " + guests, Checks.perform(x, "book 0 " + guests), due);
        }
    }

    private static GlacierGuides withTours() {
        GlacierGuides x = new GlacierGuides();
        for (int i = 0; i < 10; i++) {
            x.addTour(5, 0L, 1 + i, 0);
        }
        return x;
    }

    private static void performing() {
        GlacierGuides x = new GlacierGuides();
        x.addGuide(3, 99);
        x.addGuide(1, 99);
        x.addTour(20, Checks.bits(20.0), 100, 0);
        x.addTour(20, Checks.bits(10.0), 90, 0);
        Checks.due("book 0 11", Checks.perform(x, "book 0 11"), 1100);
        Checks.due("tour(0, 3)", x.tour(0, 3), 11);
        Checks.due("leave 0 10", Checks.perform(x, "leave 0 10"), 1000);
        Checks.due("tour(0, 3)", x.tour(0, 3), 1);
        Checks.due("lead 1 0", Checks.perform(x, "lead 1 0"), 4);
        Checks.due("the guide is the first number", x.rope(0, 0, 0), 1);
        Checks.due("lead 0 1", Checks.perform(x, "lead 0 1"), 8);
        Checks.due("merge 0 1", Checks.perform(x, "merge 0 1"), 10);
        Checks.due("tour(0, 6)", x.tour(0, 6), 3);
        Checks.due("tour(1, 4)", x.tour(1, 4), 2);
        Checks.due("cancel 1", Checks.perform(x, "cancel 1"), 90);
        Checks.due("tour(1, 7)", x.tour(1, 7), 4);
        Checks.due("the text stays", x.count(12), 8);
        Checks.due("perform() again", x.perform(), GlacierGuides.NOT_POSSIBLE);
        Checks.due("five acts", x.count(11), 5);
    }

    private static void performingIsOneAct() {
        GlacierGuides x = new GlacierGuides();
        x.addTour(20, 0L, 100, 0);
        Checks.due("states before", x.count(11), 1);
        Checks.type(x, "book 0 2");
        Checks.due("perform()", x.perform(), 200);
        Checks.due("states then", x.count(11), 2);
        Checks.due("undo()", x.undo(), 1);
        Checks.due("tour(0, 3) undone", x.tour(0, 3), 0);
        Checks.due("undo() leaves the text", x.count(12), 8);
        Checks.due("perform() after undo()", x.perform(), 200);
        x.keep();
        x.type('5');
        Checks.due("restore()", x.restore(), 0);
        Checks.due("restore() leaves the text", x.count(12), 9);
        Checks.due("perform() of \"book 0 25\"", x.perform(), GlacierGuides.BAD_VALUE);
    }

    private static void performingErrors() {
        String[] texts = {
            "book 1 1", "book 0 0", "book 0 13", "leave 1 1", "leave 0 0", "leave 0 1", "merge 0 1", "merge 0 0",
            "cancel 1", "lead 1 0", "lead 0 1",
        };
        int[] due = {
            GlacierGuides.UNKNOWN, GlacierGuides.BAD_VALUE, GlacierGuides.BAD_VALUE, GlacierGuides.UNKNOWN,
            GlacierGuides.BAD_VALUE, GlacierGuides.NOT_POSSIBLE, GlacierGuides.UNKNOWN, GlacierGuides.BAD_VALUE,
            GlacierGuides.UNKNOWN, GlacierGuides.UNKNOWN, GlacierGuides.UNKNOWN,
        };
        for (int i = 0; i < texts.length; i++) {
            GlacierGuides x = withOneTour();
            String before = Checks.told(x);
            Checks.due("perform() of \"" + texts[i] + "\"", Checks.perform(x, texts[i]), due[i]);
            Checks.unchanged(x, before, 2, texts[i].length(), texts[i]);
        }
        GlacierGuides x = withOneTour();
        x.book(0, 12);
        Checks.due("FULL", Checks.perform(x, "book 0 1"), GlacierGuides.FULL);
    }

    private static GlacierGuides withOneTour() {
        GlacierGuides x = new GlacierGuides();
        x.addGuide(2, 9);
        x.addTour(5, 0L, 100, 0);
        return x;
    }
}
