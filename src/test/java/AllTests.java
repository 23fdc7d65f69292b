/** Runs every test of the project; its arguments are the files of the class, of the document, and of the README. */
public final class AllTests {
    private AllTests() {
    }

    public static void main(String[] args) throws Exception {
        ChangesTest.all();
        QuestionsTest.all();
        TextsTest.all();
        AccountsTest.all();
        SweepsTest.all();
        ModelTest.all();
        RoomTest.all();
        if (args.length > 0) {
            RulesTest.all(args[0]);
        }
        SentencesTest.all(args.length > 1 ? args[1] : "../shared/DOC.md");
        ReadmeTest.all(args.length > 2 ? args[2] : "README.md");
        System.out.println("project: " + Check.passed + " passed, " + Check.failed + " failed");
        System.exit(Check.failed == 0 && Check.passed > 0 ? 0 : 1);
    }
}
