/**
 * What the tests of the document's boundary cases are written with. Each test bears the sentence whose
 * boundary it looks at; the rows of calls are those of Office.
 */
abstract class Bounds {
    /** What may be done behind a call to see whether it left a trace in the history, the snapshot or the text. */
    private static final String[] PROBES = {
        "", "undo()", "2 x undo()", "3 x undo()", "4 x undo()", "5 x undo()", "restore()", "perform()", "type(48)",
    };
    private static final int MOST_STATES = 5;

    private static String section = "";

    static void in(String itsName) {
        section = itsName;
    }

    /** A test of a sentence, or of a part of it, that names a boundary. */
    static void sentence(String words, Runnable test) {
        Checks.begin(section + ": " + words);
        Document.quote(section, words);
        run(test);
    }

    /** A test of the order of the errors in a @return line. */
    static void order(String line, Runnable test) {
        Checks.begin(section + ", order of the checks: " + line);
        run(test);
    }

    private static void run(Runnable test) {
        int before = Checks.madeSoFar();
        try {
            test.run();
        } catch (RuntimeException e) {
            Checks.dueText("the test", "an exception: " + e, "no exception");
        }
        Checks.due("the test looks at something", Checks.madeSoFar() > before ? 1 : 0, 1);
        Checks.begin("");
    }

    /** Rows on a new object. */
    static void rows(String rows) {
        Office.after(rows);
    }

    /** A call that is an act: it answers so, it records one state, and undo() takes back all of it. */
    static void acts(String scene, String row) {
        Office office = Office.after(scene);
        int states = office.states();
        int length = office.textLength();
        office.play(row);
        Checks.due(row + ": the states in the history", office.states(), Math.min(states + 1, MOST_STATES));
        Checks.due(row + ": the length of the text", office.textLength(), length);
        for (int undone = 0; undone < MOST_STATES && undone <= states; undone++) {
            String with = Office.after(scene + "; " + row + "; " + (undone + 1) + " x undo()").state();
            String without = Office.after(scene + "; " + undone + " x undo()").state();
            Checks.dueText(row + ": the state after undo(), behind " + scene, with, without);
        }
        dueSameSnapshot(scene, row);
    }

    private static void dueSameSnapshot(String scene, String row) {
        Office without = Office.after(scene);
        Office with = Office.after(scene).play(row);
        Object due = without.call("restore()");
        Object got = with.call("restore()");
        Checks.due(row + ": restore() behind it", (Integer) got, (Integer) due);
        if (!due.equals(GlacierGuides.NONE)) {
            Checks.dueText(row + ": the snapshot, behind " + scene, with.state(), without.state());
        }
    }

    /** A call that is refused, with an error or NONE: it answers so, and it changes nothing. */
    static void refused(String scene, String row) {
        for (String probe : PROBES) {
            Office with = Office.after(scene).play(row);
            Office without = Office.after(scene);
            int states = without.states();
            Checks.due(row + ": the states in the history", with.states(), states);
            Checks.due(row + ": the length of the text", with.textLength(), without.textLength());
            if (probe.endsWith(" x undo()") && probe.charAt(0) - '0' > states) {
                continue;
            }
            dueSameBehind(probe, with, without, row + ", then " + probe + ", behind " + scene);
        }
    }

    private static void dueSameBehind(String probe, Office with, Office without, String what) {
        if (probe.endsWith(" x undo()")) {
            with.play(probe);
            without.play(probe);
        } else if (!probe.isEmpty()) {
            Checks.dueText(what, String.valueOf(with.call(probe)), String.valueOf(without.call(probe)));
        }
        Checks.dueText(what, with.state(), without.state());
    }

    /** A call that only tells: it answers so, and it changes nothing. */
    static void tells(String scene, String row) {
        refused(scene, row);
    }
}
