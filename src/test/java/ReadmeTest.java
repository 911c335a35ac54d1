import java.lang.reflect.Method;
import java.nio.charset.StandardCharsets;
import java.nio.file.Files;
import java.nio.file.Path;
import java.util.regex.Matcher;
import java.util.regex.Pattern;

/** README.md tells each call of the face, and its example answers as it says. */
public final class ReadmeTest {
    private static final Pattern SHOWN = Pattern.compile("^hours\\.(\\w+)\\((.*?)\\); *// (-?\\d+|true|false): ");
    private static final int SHOWN_AT_LEAST = 20;

    private static int wrong = 0;

    public static void main(String[] args) throws Exception {
        String text = Files.readString(Path.of("README.md"), StandardCharsets.UTF_8);
        runExample(text.substring(text.indexOf("```java"), text.indexOf("```\n\n| call")));
        for (Method method : WheelHours.class.getDeclaredMethods()) {
            boolean isPublic = java.lang.reflect.Modifier.isPublic(method.getModifiers());
            if (isPublic && !text.contains("\n| `" + method.getName() + "(")) tellWrong("no row tells of " + method.getName());
        }
        System.out.println(wrong == 0 ? "README.md is as due" : wrong + " places of README.md are not as due");
        if (wrong != 0) System.exit(1);
    }

    private static void runExample(String example) throws Exception {
        WheelHours hours = new WheelHours();
        int shown = 0;
        for (String line : example.split("\n")) {
            if (!line.startsWith("hours.")) continue;
            Matcher call = SHOWN.matcher(line);
            if (!call.find()) {
                tellWrong("no answer is told: " + line);
                continue;
            }
            shown++;
            String answer = String.valueOf(answerOf(hours, call.group(1), call.group(2).split(", ")));
            if (!answer.equals(call.group(3))) tellWrong(line + " answered " + answer);
        }
        if (shown < SHOWN_AT_LEAST) tellWrong("only " + shown + " calls are shown");
    }

    private static Object answerOf(WheelHours hours, String name, String[] words) throws Exception {
        for (Method method : WheelHours.class.getMethods()) {
            if (!method.getName().equals(name)) continue;
            Object[] given = new Object[words.length];
            for (int i = 0; i < words.length; i++) given[i] = valueOf(words[i]);
            return method.invoke(hours, given);
        }
        return "no such call";
    }

    private static Object valueOf(String word) {
        if (word.equals("true") || word.equals("false")) return Boolean.valueOf(word);
        return word.startsWith("'") ? (Object) (int) word.charAt(1) : Integer.decode(word);
    }

    private static void tellWrong(String what) {
        wrong++;
        System.out.println(what);
    }
}
