import java.lang.reflect.InvocationTargetException;
import java.lang.reflect.Method;
import java.util.List;

/**
 * An object that is played by rows of calls, parted by semicolons:
 *
 * <pre>
 * addGuide(3, 20)                a call that must answer no error
 * addGuide(4, 20) -> BAD_VALUE   a call and the answer that is due
 * 8 x addGuide(3, 20)            the same call eight times
 * 'book 0 3'                     clears the text and types this one
 * </pre>
 *
 * MAX and MIN are the greatest and the smallest whole number of the argument's type. Bits are written as the
 * number whose bits they are, or with 0x; 15.0+ and 15.0- are the numbers next to 15.0.
 */
final class Office {
    private static final int MOST_CALLS = 512;
    private static final List<String> NAMES = List.of("NONE", "NOT_POSSIBLE", "FULL", "BAD_VALUE", "UNKNOWN");

    private final GlacierGuides x = new GlacierGuides();
    private final StringBuilder played = new StringBuilder();
    private int calls;

    static Office after(String rows) {
        return new Office().play(rows);
    }

    Office play(String rows) {
        for (String row : rows.split(";")) {
            if (!row.isBlank()) {
                playRow(row.strip());
            }
        }
        return this;
    }

    private void playRow(String row) {
        played.append(played.length() == 0 ? "" : "; ").append(row);
        if (row.startsWith("'")) {
            typeText(row.substring(1, row.length() - 1));
            return;
        }
        int times = 1;
        String rest = row;
        if (row.matches("[0-9]+ x .*")) {
            times = Integer.parseInt(row.substring(0, row.indexOf(' ')));
            rest = row.substring(row.indexOf('x') + 2);
        }
        String[] parts = rest.split(" -> ");
        for (int i = 0; i < times; i++) {
            look(parts[0], parts.length > 1 ? parts[1] : "");
        }
    }

    private void typeText(String text) {
        call("clearText()");
        for (int i = 0; i < text.length(); i++) {
            call("type(" + (int) text.charAt(i) + ")");
        }
    }

    private void look(String call, String due) {
        Object got = call(call);
        if (due.isEmpty()) {
            boolean error = got instanceof Integer && (Integer) got < 0;
            Checks.dueText(played.toString(), error ? written(got) : "no error", "no error");
        } else {
            Checks.dueText(played.toString(), written(got), got instanceof Double ? written(number(due)) : due);
        }
    }

    /** Makes a call, written as in a row, and gives what it answers. */
    Object call(String call) {
        spend(1);
        Method method = methodOf(call.substring(0, call.indexOf('(')));
        String inside = call.substring(call.indexOf('(') + 1, call.indexOf(')'));
        String[] words = inside.isEmpty() ? new String[0] : inside.split(", ");
        Class<?>[] types = method.getParameterTypes();
        Object[] arguments = new Object[types.length];
        for (int i = 0; i < types.length; i++) {
            arguments[i] = argument(types[i], words[i]);
        }
        try {
            Object answer = method.invoke(x, arguments);
            return answer instanceof Long ? Double.longBitsToDouble((Long) answer) : answer;
        } catch (InvocationTargetException e) {
            return "an exception: " + e.getCause();
        } catch (IllegalAccessException e) {
            throw new IllegalStateException(call, e);
        }
    }

    private static Method methodOf(String name) {
        for (Method method : GlacierGuides.class.getMethods()) {
            if (method.getName().equals(name)) {
                return method;
            }
        }
        throw new IllegalArgumentException("no method " + name);
    }

    private static Object argument(Class<?> type, String word) {
        if (type == long.class) {
            return bits(word);
        }
        if (type == char.class) {
            return (char) Integer.parseInt(word);
        }
        return word.equals("MAX") ? Integer.MAX_VALUE : word.equals("MIN") ? Integer.MIN_VALUE : Integer.parseInt(word);
    }

    private static long bits(String word) {
        if (word.startsWith("0x")) {
            return Long.parseUnsignedLong(word.substring(2), 16);
        }
        return Double.doubleToRawLongBits(number(word));
    }

    private static double number(String word) {
        String digits = word.substring(0, word.length() - 1);
        if (word.endsWith("+")) {
            return Math.nextUp(Double.parseDouble(digits));
        }
        return word.endsWith("-") ? Math.nextDown(Double.parseDouble(digits)) : Double.parseDouble(word);
    }

    /** An answer as it is written in a row; a double with all that tells it from others. */
    private static String written(Object answer) {
        if (answer instanceof Integer && (Integer) answer < 0 && (Integer) answer >= GlacierGuides.NONE) {
            return NAMES.get((Integer) answer - GlacierGuides.NONE);
        }
        return String.valueOf(answer);
    }

    int states() {
        return (Integer) call("count(11)");
    }

    int textLength() {
        return (Integer) call("count(12)");
    }

    /** All of the state that an object tells. */
    String state() {
        String told = Checks.told(x);
        spend(told.split("\n").length);
        return told;
    }

    private void spend(int more) {
        calls += more;
        if (calls > MOST_CALLS) {
            throw new IllegalStateException("more calls than an object is used for: " + played);
        }
    }
}
