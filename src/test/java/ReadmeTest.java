import java.lang.reflect.Method;
import java.nio.charset.StandardCharsets;
import java.nio.file.Files;
import java.nio.file.Path;
import java.util.regex.Matcher;
import java.util.regex.Pattern;

/** Runs the example of README.md: each call must answer what stands behind it, and each call of the face be named. */
final class ReadmeTest {
    private static final Pattern EXAMPLE = Pattern.compile("(?s)```java\n(.*?)```");
    private static final Pattern CALL = Pattern.compile("x\\.(\\w+)\\((.*)\\); +// (throws \\w+|[^:]+)(: .*)?");
    private static final Pattern TYPING =
        Pattern.compile("for \\(char c : \"(.*)\"\\.toCharArray\\(\\)\\) \\{ x\\.append\\(c\\); \\}");

    private ReadmeTest() {
    }

    static void all(String file) throws Exception {
        String text = new String(Files.readAllBytes(Path.of(file)), StandardCharsets.UTF_8);
        Matcher example = EXAMPLE.matcher(text);
        Check.isSo("README: an example", example.find());
        Scene scene = Scene.of("");
        for (String line : example.group(1).split("\n")) {
            run(line, scene);
        }
        String prose = text.replace(example.group(), "");
        for (Method method : ClockParliament.class.getDeclaredMethods()) {
            if (java.lang.reflect.Modifier.isPublic(method.getModifiers())) {
                Check.isSo("README: names " + method.getName(), prose.contains("`" + method.getName() + "`"));
            }
        }
    }

    private static void run(String line, Scene scene) {
        Matcher call = CALL.matcher(line);
        Matcher typing = TYPING.matcher(line);
        if (call.matches()) {
            String arguments = call.group(2).isEmpty() ? "" : " " + call.group(2).replace(",", "");
            String due = call.group(3).replace("throws ", "throws.");
            Check.same("README: " + line, scene.answerOf(call.group(1) + arguments), due);
        } else if (typing.matches()) {
            scene.play("type " + typing.group(1));
        } else {
            Check.isSo("README: " + line, line.isEmpty() || line.contains("new ClockParliament()"));
        }
    }
}
