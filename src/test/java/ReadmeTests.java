import java.io.IOException;
import java.lang.reflect.Method;
import java.nio.file.Files;
import java.nio.file.Path;
import java.util.HashSet;
import java.util.Set;
import java.util.regex.Matcher;
import java.util.regex.Pattern;

/** README.md says what is so: its calls, done in their order, answer what stands behind them. */
public final class ReadmeTests extends Checks {
    private static final Pattern MADE = Pattern.compile("CardSheets shop = new CardSheets\\(\\);");
    private static final Pattern CALL =
        Pattern.compile("shop\\.(\\w+)\\((.*)\\); +// (-?\\d+(?:\\.\\d+)?|[A-Z]+(?:_[A-Z]+)*)(?:[ :,].*|$)");
    private static final Pattern TYPED = Pattern.compile("for \\(char sign : \"(.*)\"\\.toCharArray\\(\\)\\) \\{");
    private static final Pattern REST_OF_TYPED = Pattern.compile("    shop\\.type\\(sign\\);|}");

    private static CardSheets shop = null;

    private ReadmeTests() {
    }

    public static void main(String[] args) throws IOException {
        String readme = Files.readString(Path.of("README.md"));
        says("each line of the examples", () -> examples(readme));
        says("each method of the face is named", () -> names(readme));
        finish("promises of the README");
    }

    private static void examples(String readme) {
        Matcher blocks = Pattern.compile("(?s)```java\n(.*?)```").matcher(readme);
        while (blocks.find()) {
            for (String line : blocks.group(1).split("\n")) {
                doLine(line);
            }
        }
    }

    private static void doLine(String line) {
        Matcher call = CALL.matcher(line);
        Matcher typed = TYPED.matcher(line);
        if (MADE.matcher(line).matches()) {
            shop = new CardSheets();
        } else if (call.matches()) {
            due(line, answer(call.group(1), call.group(2)), number(call.group(3)));
        } else if (typed.matches()) {
            for (char sign : typed.group(1).toCharArray()) {
                shop.type(sign);
            }
        } else {
            same("a line that is no call, read as", line, REST_OF_TYPED.matcher(line).matches() ? line : "");
        }
    }

    private static double answer(String name, String arguments) {
        String[] texts = arguments.isEmpty() ? new String[0] : arguments.split(", ");
        for (Method method : CardSheets.class.getMethods()) {
            if (method.getName().equals(name) && method.getParameterCount() == texts.length) {
                try {
                    Object answer = method.invoke(shop, values(method.getParameterTypes(), texts));
                    return ((Number) answer).doubleValue();
                } catch (ReflectiveOperationException e) {
                    throw new IllegalStateException(name, e);
                }
            }
        }
        throw new IllegalStateException("no method " + name + " with " + texts.length + " arguments");
    }

    private static Object[] values(Class<?>[] types, String[] texts) {
        Object[] values = new Object[texts.length];
        for (int k = 0; k < texts.length; k++) {
            values[k] = types[k] == boolean.class ? Boolean.valueOf(texts[k]) : Integer.valueOf(texts[k]);
        }
        return values;
    }

    private static double number(String text) {
        if (!Character.isLetter(text.charAt(0))) {
            return Float.parseFloat(text);
        }
        try {
            return CardSheets.class.getField(text).getInt(null);
        } catch (ReflectiveOperationException e) {
            throw new IllegalStateException(text, e);
        }
    }

    private static void names(String readme) {
        Set<String> named = new HashSet<>();
        Matcher names = Pattern.compile("`(\\w+)`").matcher(readme);
        while (names.find()) {
            named.add(names.group(1));
        }
        for (Method method : CardSheets.class.getMethods()) {
            if (method.getDeclaringClass() == CardSheets.class) {
                due(method.getName() + " is named", named.contains(method.getName()) ? 1 : 0, 1);
            }
        }
    }
}
