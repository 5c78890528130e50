import java.lang.reflect.InvocationTargetException;
import java.lang.reflect.Method;
import java.nio.charset.StandardCharsets;
import java.nio.file.Files;
import java.nio.file.Path;
import java.util.regex.Matcher;
import java.util.regex.Pattern;

/** Makes the calls of the example in README.md, and asks that each one answers what stands behind it. */
public final class ReadmeTest {
    private static final Pattern CALL = Pattern.compile("^x\\.(\\w+)\\((.*)\\);(?: +// ([^:]*).*)?$");
    private static int wrong = 0;

    public static void main(String[] args) throws Exception {
        Path root = Path.of(args.length > 0 ? args[0] : ".");
        int told = 0;
        StruckPage x = new StruckPage();
        for (String line : example(Files.readString(root.resolve("README.md"), StandardCharsets.UTF_8))) {
            Matcher call = CALL.matcher(line);
            if (call.find()) {
                String answer = answerOf(x, call.group(1), call.group(2));
                if (call.group(3) != null) {
                    told++;
                    judge(line, answer, call.group(3));
                }
            } else if (!line.isEmpty() && !line.startsWith("//") && !line.equals("StruckPage x = new StruckPage();")) {
                judge(line, "not understood", "a call");
            }
        }
        if (told == 0) {
            judge("README.md", "no answers", "some");
        }
        System.out.println(wrong == 0 ? "the example answers as it says" : wrong + " lines are not so");
        if (wrong != 0) {
            System.exit(1);
        }
    }

    private static void judge(String line, String answer, String due) {
        if (!answer.equals(due)) {
            wrong++;
            System.out.println(line + "\n    answered " + answer + ", due is " + due);
        }
    }

    private static String[] example(String readme) {
        String opening = "```java\n";
        int from = readme.indexOf(opening);
        int to = from < 0 ? -1 : readme.indexOf("```", from + opening.length());
        return to < 0 ? new String[0] : readme.substring(from + opening.length(), to).split("\n");
    }

    private static String answerOf(StruckPage x, String name, String operands) throws Exception {
        String[] texts = operands.isEmpty() ? new String[0] : operands.split(", *");
        Object[] numbers = new Object[texts.length];
        Class<?>[] kinds = new Class<?>[texts.length];
        for (int i = 0; i < texts.length; i++) {
            numbers[i] = Integer.decode(texts[i]);
            kinds[i] = int.class;
        }
        Method method = StruckPage.class.getMethod(name, kinds);
        try {
            return String.valueOf(method.invoke(x, numbers));
        } catch (InvocationTargetException e) {
            return "throws " + e.getCause().getClass().getSimpleName();
        }
    }
}
