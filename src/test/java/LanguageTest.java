import java.io.IOException;
import java.lang.reflect.Field;
import java.lang.reflect.Method;
import java.lang.reflect.Modifier;
import java.nio.file.Files;
import java.nio.file.Path;
import java.util.ArrayList;
import java.util.List;
import java.util.Set;
import java.util.TreeSet;
import java.util.regex.Matcher;
import java.util.regex.Pattern;

/** The rules of LANGUAGE.md that a look at the program's text and at its classes can check. */
public final class LanguageTest {
    private static final Path SOURCE = Path.of("src/main/java/TourHouse.java");
    private static final String[] RULED_OUT = {
        "->", "::", "\\bfinally\\b", "\\bsynchronized\\b", "\\bassert\\b", "\\bthread\\b", "\\bpackage\\b",
        "Exact\\(", "\\bnative\\b", "\\bstatic\\s*\\{", "\\bSystem\\.(?!arraycopy)", "\\btoString\\b",
        "\\bhashCode\\b", "\\bequals\\b",
        "\\bthrow (?!new (IllegalArgument|IllegalState|NoSuchElement)Exception\\((\"\")?\\);)",
        "\\bimport (?!java\\.util\\.(Arrays|NoSuchElementException);)",
    };

    /** Of the library that rule 4 leaves, what the class needs. */
    private static final Set<String> LIBRARY = Set.of("Arrays.fill", "Integer.bitCount", "System.arraycopy");
    private static final Set<Class<?>> CONSTANTS =
        Set.of(int.class, long.class, boolean.class, char.class, String.class);

    public static void main(String[] args) throws IOException {
        String text = Files.readString(SOURCE);
        String code = text.replaceAll("(?s)/\\*.*?\\*/", "").replaceAll("//.*", "").replaceAll("\"[^\"]*\"", "\"\"");
        for (String pattern : RULED_OUT) {
            Checks.due("found " + pattern, Pattern.compile(pattern).matcher(code).find(), false);
        }
        checkLengthOfMethods(List.of(text.split("\n")));
        checkLibrary(code);
        List<Class<?>> classes = new ArrayList<>(List.of(TourHouse.class.getDeclaredClasses()));
        classes.forEach(LanguageTest::checkClassInside);
        classes.add(TourHouse.class);
        classes.forEach(LanguageTest::checkFields);
        classes.forEach(LanguageTest::checkMethods);
        Checks.due("more than twelve classes", classes.size() > 12, false);
        Checks.finish();
    }

    /** Rule 4. */
    private static void checkLibrary(String code) {
        Set<String> used = new TreeSet<>();
        Matcher call = Pattern.compile("\\b(Arrays|Integer|Long|Math|System|String|List|ArrayList)\\.(\\w+)").matcher(code);
        while (call.find()) {
            used.add(call.group());
        }
        Checks.due("library calls", used, new TreeSet<>(LIBRARY));
    }

    /** Rule 1: classes inside are private or package-visible, and static. */
    private static void checkClassInside(Class<?> inside) {
        int modifiers = inside.getModifiers();
        boolean seen = Modifier.isPublic(modifiers) || Modifier.isProtected(modifiers);
        Checks.due(inside.getName() + " can be seen", seen, false);
        Checks.due(inside.getName() + " is static", Modifier.isStatic(modifiers), true);
    }

    /** Rules 3, 5 and 11. */
    private static void checkFields(Class<?> owner) {
        int ownFields = 0;
        for (Field field : owner.getDeclaredFields()) {
            String name = owner.getName() + "." + field.getName();
            if (Modifier.isStatic(field.getModifiers())) {
                Checks.due(name + " is final", Modifier.isFinal(field.getModifiers()), true);
                Checks.due(name + " is a constant", CONSTANTS.contains(field.getType()), true);
            } else {
                ownFields++;
                Checks.due(name + " has a type of the rules", isTypeOfTheRules(field.getType()), true);
            }
        }
        Checks.due("more than twenty fields in " + owner.getName(), ownFields > 20, false);
    }

    private static boolean isTypeOfTheRules(Class<?> type) {
        Class<?> element = type;
        for (int depth = 0; depth < 2 && element.isArray(); depth++) {
            element = element.getComponentType();
        }
        return element.isPrimitive() || element.getEnclosingClass() == TourHouse.class;
    }

    /** Rule 11. */
    private static void checkMethods(Class<?> owner) {
        for (Method method : owner.getDeclaredMethods()) {
            String name = owner.getName() + "." + method.getName();
            Checks.due(name + " has more than seven parameters", method.getParameterCount() > 7, false);
        }
    }

    private static void checkLengthOfMethods(List<String> lines) {
        Pattern head = Pattern.compile("^( {4}| {8})[a-zA-Z].*\\) ?(throws .*)?\\{$");
        for (int i = 0; i < lines.size(); i++) {
            if (head.matcher(lines.get(i)).find()) {
                String end = lines.get(i).startsWith("        ") ? "        }" : "    }";
                int length = lines.subList(i, lines.size()).indexOf(end) + 1;
                Checks.due("too long: " + lines.get(i).trim(), length > 60, false);
            }
        }
    }
}
