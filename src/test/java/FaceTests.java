import java.io.IOException;
import java.lang.reflect.Constructor;
import java.lang.reflect.Field;
import java.lang.reflect.Method;
import java.lang.reflect.Modifier;
import java.nio.file.Files;
import java.nio.file.Path;
import java.util.ArrayList;
import java.util.HashSet;
import java.util.List;
import java.util.Set;
import java.util.TreeSet;
import java.util.regex.Matcher;
import java.util.regex.Pattern;

/** The face of the document, no more and no less, and those rules of LANGUAGE.md that show in the code. */
public final class FaceTests {
    private static final String[] METHODS = {
        "int swap(int,int)", "int mark(int,int,boolean)", "int lean(int,int)", "int changeAll()",
        "int set(int,int)", "int print(boolean)", "int cutSheet(int)", "int cutPack(int)",
        "int shuffle(int)", "int deal(int)", "int sell()", "int pulp()", "int type(char)",
        "int clearText()", "int fault()", "int undo()", "int keep()", "int restore()",
        "int block(int,int)", "int cardOf(int,int)", "int sheet(int,int,int)", "int pack(int,int)",
        "int count(int)", "int why()", "float chances()", "int ifPrinted(boolean)",
        "int worstFlaw(int)", "int bestWay()", "int backIn(int)"};
    private static final String[] CONSTANTS = {
        "UNKNOWN -1", "BAD_VALUE -2", "FULL -3", "NOT_POSSIBLE -4", "NONE -5"};
    private static final int MOST_LINES = 60;
    private static final String[] FORBIDDEN = {
        "->", "::", "import ", "synchronized", "assert ", "finally", "catch", "throw ", "Math.random",
        "Exact(", "System.currentTime", "System.nanoTime", "System.out", "package ", "try ", "instanceof",
        "hashCode", "equals(", "toString", "var ", "static {", "\"", "protected ", "while (true)", "for (;;)"};

    private static final Pattern METHOD =
        Pattern.compile("( {4}| {8})(?! |if |for |while |do |switch |}).*\\) \\{");

    private static int wrong = 0;

    private FaceTests() {
    }

    public static void main(String[] args) throws IOException, IllegalAccessException {
        methods();
        constants();
        classesInside();
        source();
        System.out.println(wrong == 0 ? "the face is as due" : wrong + " faults of the face");
        if (wrong != 0) {
            System.exit(1);
        }
    }

    private static void check(boolean is, String what) {
        if (!is) {
            wrong++;
            System.out.println("face: " + what);
        }
    }

    private static void methods() {
        Set<String> due = new TreeSet<>(List.of(METHODS));
        Set<String> found = new TreeSet<>();
        Set<String> names = new HashSet<>();
        for (Method method : CardSheets.class.getDeclaredMethods()) {
            if (Modifier.isPublic(method.getModifiers())) {
                found.add(signature(method));
                names.add(method.getName());
                check(!Modifier.isStatic(method.getModifiers()), method + " is static");
            }
        }
        check(due.equals(found), "public methods are " + found);
        for (Method method : CardSheets.class.getDeclaredMethods()) {
            if (!Modifier.isPublic(method.getModifiers())) {
                check(Modifier.isPrivate(method.getModifiers()), method + " is not private");
                check(!names.contains(method.getName()), method + " bears the name of a public one");
            }
        }
        Constructor<?>[] made = CardSheets.class.getDeclaredConstructors();
        check(made.length == 1 && Modifier.isPublic(made[0].getModifiers())
            && made[0].getParameterCount() == 0, "the constructor");
        check(Modifier.isFinal(CardSheets.class.getModifiers()), "the class is not final");
        check(Modifier.isPublic(CardSheets.class.getModifiers()), "the class is not public");
    }

    private static String signature(Method method) {
        List<String> types = new ArrayList<>();
        for (Class<?> type : method.getParameterTypes()) {
            types.add(type.getName());
        }
        return method.getReturnType().getName() + " " + method.getName() + "(" + String.join(",", types) + ")";
    }

    private static void constants() throws IllegalAccessException {
        Set<String> found = new TreeSet<>();
        for (Field field : CardSheets.class.getDeclaredFields()) {
            int is = field.getModifiers();
            if (Modifier.isPublic(is)) {
                check(Modifier.isStatic(is) && Modifier.isFinal(is) && field.getType() == int.class, field.toString());
                found.add(field.getName() + " " + field.getInt(null));
            } else {
                check(Modifier.isPrivate(is), field + " is not private");
            }
            check(!Modifier.isStatic(is) || Modifier.isFinal(is), field + " is static and not final");
        }
        check(new TreeSet<>(List.of(CONSTANTS)).equals(found), "public constants are " + found);
    }

    private static void classesInside() {
        check(CardSheets.class.getDeclaredClasses().length <= 11, "too many classes");
        for (Class<?> inside : CardSheets.class.getDeclaredClasses()) {
            check(Modifier.isPrivate(inside.getModifiers()), inside + " is not private");
            check(Modifier.isStatic(inside.getModifiers()), inside + " is not static");
            check(inside.getDeclaredFields().length <= 20, inside + " has too many fields");
            for (Method method : inside.getDeclaredMethods()) {
                check(method.getParameterCount() <= 7, method + " has too many parameters");
                check(!bearsPublicName(method), method + " bears the name of a public one");
            }
        }
    }

    private static boolean bearsPublicName(Method method) {
        for (String face : METHODS) {
            if (face.contains(" " + method.getName() + "(")) {
                return true;
            }
        }
        return false;
    }

    private static void source() throws IOException {
        String all = Files.readString(Path.of("src/main/java/CardSheets.java"));
        String code = all.replaceAll("(?s)/\\*.*?\\*/", "").replaceAll("//[^\n]*", "");
        for (String word : FORBIDDEN) {
            check(!code.contains(word), "the code holds \"" + word.trim() + "\"");
        }
        for (int k = 0; k < all.length(); k++) {
            check(all.charAt(k) < 128, "a sign beyond 127 at " + k);
        }
        lengths(code.split("\n"));
    }

    /** A method begins with a line that is set in once (twice in a class inside) and ends with such a brace. */
    private static void lengths(String[] lines) {
        int methods = 0;
        for (int k = 0; k < lines.length; k++) {
            Matcher first = METHOD.matcher(lines[k]);
            if (first.matches()) {
                methods++;
                int end = k;
                while (end < lines.length && !lines[end].equals(first.group(1) + "}")) {
                    end++;
                }
                check(end - k < MOST_LINES, "too long, or without an end: " + lines[k].trim());
            }
        }
        check(methods > METHODS.length, "only " + methods + " methods were found");
    }
}
