import java.lang.reflect.Constructor;
import java.lang.reflect.Field;
import java.lang.reflect.Method;
import java.lang.reflect.Modifier;
import java.util.Arrays;
import java.util.TreeSet;
import java.util.regex.Matcher;
import java.util.regex.Pattern;

/** The public face: the members of the document with their types, and no others that can be seen. */
public final class FaceTest {
    private static final String[] FACE = {
        "int UNKNOWN", "int BAD_VALUE", "int FULL", "int NOT_POSSIBLE", "int NONE",
        "GlacierGuides()",
        "int addGuide(int,int)", "int renew(int,int,int)", "int addBridge(long)", "int setTemperature(long)",
        "int addTour(int,long,int,int)", "int book(int,int)", "int leave(int,int)", "int lead(int,int)",
        "int release(int,int)", "int merge(int,int)", "int cancel(int)", "int pass(int)",
        "int type(char)", "int clearText()", "int perform()", "int undo()", "int keep()", "int restore()",
        "int guide(int,int)", "int tour(int,int)", "int rope(int,int,int)", "double thickness(int)",
        "double foretold(int,int)", "double needed(int)", "int holds(int,int)", "int bestGuide(int)",
        "int takes(int,int)", "int count(int)", "long temperature()",
    };

    private FaceTest() {
    }

    public static void main(String[] args) {
        Checks.dueText("the face", seen().toString(), new TreeSet<>(Arrays.asList(FACE)).toString());
        if (Document.isThere()) {
            Checks.dueText("the document's face", written().toString(), seen().toString());
        }
        int modifiers = GlacierGuides.class.getModifiers();
        Checks.due("the class is public and final",
            Modifier.isPublic(modifiers) && Modifier.isFinal(modifiers) ? 1 : 0, 1);
        Checks.due("UNKNOWN", GlacierGuides.UNKNOWN, -1);
        Checks.due("BAD_VALUE", GlacierGuides.BAD_VALUE, -2);
        Checks.due("FULL", GlacierGuides.FULL, -3);
        Checks.due("NOT_POSSIBLE", GlacierGuides.NOT_POSSIBLE, -4);
        Checks.due("NONE", GlacierGuides.NONE, -5);
        Checks.end();
    }

    private static TreeSet<String> seen() {
        TreeSet<String> seen = new TreeSet<>();
        for (Field field : GlacierGuides.class.getDeclaredFields()) {
            if (isSeen(field.getModifiers(), field.isSynthetic())) {
                seen.add(field.getType() + " " + field.getName());
            }
        }
        for (Constructor<?> constructor : GlacierGuides.class.getDeclaredConstructors()) {
            if (isSeen(constructor.getModifiers(), constructor.isSynthetic())) {
                seen.add("GlacierGuides(" + types(constructor.getParameterTypes()) + ")");
            }
        }
        for (Method method : GlacierGuides.class.getDeclaredMethods()) {
            if (isSeen(method.getModifiers(), method.isSynthetic())) {
                seen.add(method.getReturnType() + " " + method.getName()
                    + "(" + types(method.getParameterTypes()) + ")");
            }
        }
        return seen;
    }

    // The members in the document's section, written as those that are seen.
    private static TreeSet<String> written() {
        TreeSet<String> written = new TreeSet<>();
        for (String line : Document.linesOf("The public face")) {
            Matcher constant = Pattern.compile("    public static final (int [A-Z_]+) = -[0-9];").matcher(line);
            Matcher method = Pattern.compile("    public ([A-Za-z ]+)\\((.*)\\);").matcher(line);
            if (constant.matches()) {
                written.add(constant.group(1));
            } else if (method.matches()) {
                String types = method.group(2).replaceAll(" [A-Za-z]+(, )?", ",").replaceFirst(",$", "");
                written.add(method.group(1) + "(" + types + ")");
            }
        }
        return written;
    }

    private static boolean isSeen(int modifiers, boolean synthetic) {
        return !synthetic && !Modifier.isPrivate(modifiers);
    }

    private static String types(Class<?>[] parameters) {
        StringBuilder types = new StringBuilder();
        for (Class<?> parameter : parameters) {
            types.append(types.length() == 0 ? "" : ",").append(parameter.getName());
        }
        return types.toString();
    }
}
