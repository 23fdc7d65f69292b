import java.lang.reflect.InvocationTargetException;
import java.lang.reflect.Method;
import java.nio.charset.StandardCharsets;
import java.nio.file.Files;
import java.nio.file.Path;
import java.util.Arrays;
import java.util.Comparator;
import java.util.HashSet;
import java.util.Set;

/** Runs the tests of the document's sentences, and looks whether each sentence has one. */
final class SentencesTest {
    private static final Class<?>[] TESTS = {
        TermsTest.class, DetailsTest.class, RefusalsTest.class, GrammarTest.class, PromisesOfChangesTest.class,
        PromisesOfQuestionsTest.class, PromisesOfTextsTest.class, PromisesOfAccountsTest.class
    };
    // What names nothing that a call could show, by section, each with its first words.
    private static final String[][] UNTESTED = {
        {"What it is", "A parliament of clocks without hands: clocks whose seconds are moved,"},
        {"What it is", "what later calls answer is free."},
        {"Terms", "The class is not thread-safe."},
        {"Not promised", "How the state is held inside the object is free,"},
        {"Not promised", "Use of one object from several threads at once is not promised to be safe."},
        {"Not promised", "Nothing is promised beyond the answers and state changes described above,"},
        // The lines of the methods: DetailsTest.theFaceIsAsItStands looks at all of them.
        {"The public face", "```java"},
        {"The public face", "public int clock(int second, int leaning) throws UnsupportedOperationException;"}
    };

    private static final int PROMISES = 45;

    private SentencesTest() {
    }

    static void all(String file) throws Exception {
        Path path = Path.of(file);
        Document document = Files.isReadable(path)
            ? new Document(new String(Files.readAllBytes(path), StandardCharsets.UTF_8)) : null;
        if (document == null) {
            System.out.println("no document at " + file + ": its sentences are tested, but not compared with it");
        }
        Set<String> about = new HashSet<>();
        for (Class<?> tests : TESTS) {
            Method[] methods = tests.getDeclaredMethods();
            Arrays.sort(methods, Comparator.comparing(Method::getName));
            for (Method method : methods) {
                if (method.isAnnotationPresent(Sentence.class)) {
                    about.add(method.getAnnotation(Sentence.class).of());
                    run(method, document);
                }
            }
        }
        for (int promise = 1; promise <= PROMISES; promise++) {
            Check.isSo("a test of promise " + promise, about.contains("Promise " + promise));
        }
        if (document != null) {
            completeness(document);
        }
    }

    private static void run(Method method, Document document) throws IllegalAccessException {
        Sentence sentence = method.getAnnotation(Sentence.class);
        String promises = sentence.promise().length == 0 ? "" : ", promise " + Arrays.toString(sentence.promise());
        Check.about = sentence.of() + promises + ", " + Arrays.toString(sentence.says()) + ", "
            + method.getDeclaringClass().getName() + "." + method.getName() + ": ";
        for (String words : sentence.says()) {
            Check.isSo("the document has \"" + words + "\"", document == null || document.quote(sentence.of(), words));
        }
        int before = Check.passed + Check.failed;
        try {
            method.invoke(null);
        } catch (InvocationTargetException e) {
            Check.same("the test itself", e.getCause().toString(), "nothing thrown");
        }
        Check.isSo("it looks at something", Check.passed + Check.failed > before);
        Check.about = "";
    }

    private static void completeness(Document document) {
        for (String words : document.unquoted()) {
            boolean isUntested = false;
            for (String[] untested : UNTESTED) {
                isUntested |= words.startsWith(untested[0] + ": " + untested[1]);
            }
            Check.isSo("a test of " + words, isUntested);
        }
    }
}
