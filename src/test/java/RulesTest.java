import java.lang.reflect.Constructor;
import java.lang.reflect.Member;
import java.lang.reflect.Method;
import java.lang.reflect.Modifier;
import java.nio.charset.StandardCharsets;
import java.nio.file.Files;
import java.nio.file.Path;
import java.util.Arrays;
import java.util.List;
import java.util.Set;
import java.util.TreeSet;
import java.util.regex.Matcher;
import java.util.regex.Pattern;

/** Looks whether the class keeps to LANGUAGE.md, as far as its text and its members show. */
final class RulesTest {
    private static final String FACE = "account adjourn apart append bill billOf carried carriedShare character circle "
        + "clock clockOf doAgree drop faultPosition hour isTold keeper key leave majority majorityAgain meanSpring "
        + "move next ranked reason restore row rowAgain rowIn run save secondIn silentIn tell tellBill tellRow undo vote "
        + "voters weakest wind wouldCarry";
    private static final List<String> FORBIDDEN = List.of(
        "(?<!\\bdefault |\\bcase [^:;{}]{1,80})->", "::", "\\bassert\\b", "\\bsynchronized\\b", "\\bfinally\\b",
        "\\bcatch \\([^)]*\\b(Throwable|Exception|Error|NullPointer\\w+|ClassCast\\w+|Array\\w+|Negative\\w+)\\b",
        "\\b(Math|Integer|Long)\\.\\w+Exact\\b", "\\+ \"", "\" \\+", "\\bimport (?!java\\.util\\.)", "String\\.",
        "\\bSystem\\.(?!arraycopy)", "\\bObject\\b", "\\bstatic \\{", "\\bpackage\\b",
        "\\bMath\\.(?!abs\\b|min\\b|max\\b|floorMod\\b|floorDiv\\b)", "\\b(Integer|Long)\\.(parse\\w+|to\\w*String)\\b",
        "[^\\x00-\\x7f]");

    private RulesTest() {
    }

    static void all(String file) throws Exception {
        String code = withoutComments(new String(Files.readAllBytes(Path.of(file)), StandardCharsets.UTF_8));
        for (String sign : FORBIDDEN) {
            Matcher matcher = Pattern.compile(sign).matcher(code);
            Check.same("language: " + sign, matcher.find() ? matcher.group() + " at " + matcher.start() : "", "");
        }
        members();
        classes();
    }

    private static String withoutComments(String code) {
        return code.replaceAll("(?s)/\\*.*?\\*/", "").replaceAll("//[^\n]*", "");
    }

    private static void members() {
        Set<String> open = new TreeSet<>();
        Set<String> hidden = new TreeSet<>();
        for (Method method : ClockParliament.class.getDeclaredMethods()) {
            if (!method.isSynthetic()) {
                (Modifier.isPrivate(method.getModifiers()) ? hidden : open).add(method.getName());
                Check.isSo("language: public or private " + method,
                    Modifier.isPublic(method.getModifiers()) || Modifier.isPrivate(method.getModifiers()));
                Check.isSo("language: parameters of " + method, method.getParameterCount() <= 7);
            }
        }
        Check.same("language: the face", open, new TreeSet<>(Arrays.asList(FACE.split(" "))));
        hidden.retainAll(open);
        Check.same("language: names of private methods", hidden, new TreeSet<String>());
        for (Member field : ClockParliament.class.getDeclaredFields()) {
            Check.isSo("language: private " + field, Modifier.isPrivate(field.getModifiers()) || field.isSynthetic());
        }
        Constructor<?>[] constructors = ClockParliament.class.getConstructors();
        Check.same("language: one constructor", constructors.length, 1);
        Check.same("language: without parameters", constructors[0].getParameterCount(), 0);
    }

    private static void classes() {
        Class<?>[] inside = ClockParliament.class.getDeclaredClasses();
        Check.isSo("language: some twelve classes", inside.length + 1 <= 12);
        for (Class<?> one : inside) {
            Check.isSo("language: static and hidden " + one,
                Modifier.isStatic(one.getModifiers()) && !Modifier.isPublic(one.getModifiers()));
            long fields = Arrays.stream(one.getDeclaredFields())
                .filter(f -> !Modifier.isStatic(f.getModifiers())).count();
            Check.isSo("language: fields of " + one, fields <= 20);
        }
    }
}
