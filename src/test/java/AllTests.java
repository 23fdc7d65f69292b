/** Runs every test of the project; its arguments are the files of the class, of the document, and of the README. */
public final class AllTests {
    private interface Suite {
        void run() throws Exception;
    }

    private AllTests() {
    }

    public static void main(String[] args) {
        suite("ChangesTest", ChangesTest::all);
        suite("QuestionsTest", QuestionsTest::all);
        suite("TextsTest", TextsTest::all);
        suite("AccountsTest", AccountsTest::all);
        suite("SweepsTest", SweepsTest::all);
        suite("ModelTest", ModelTest::all);
        suite("RoomTest", RoomTest::all);
        suite("RulesTest", () -> RulesTest.all(file(args, 0, "src/main/java/ClockParliament.java")));
        suite("SentencesTest", () -> SentencesTest.all(file(args, 1, "../shared/DOC.md")));
        suite("ReadmeTest", () -> ReadmeTest.all(file(args, 2, "README.md")));
        System.out.println("project: " + Check.passed + " passed, " + Check.failed + " failed");
        System.exit(Check.failed == 0 && Check.passed > 0 ? 0 : 1);
    }

    /** An exception that no test awaits ends its own tests, and not those of the others. */
    private static void suite(String name, Suite suite) {
        try {
            suite.run();
        } catch (Exception e) {
            Check.failed++;
            System.out.println("FAILED " + name + ": threw " + e);
            e.printStackTrace();
        }
    }

    private static String file(String[] args, int place, String usual) {
        return place < args.length ? args[place] : usual;
    }
}
