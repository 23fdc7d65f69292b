/** Runs every test of the project; its arguments are the file of the class and that of the document. */
public final class AllTests {
    private AllTests() {
    }

    public static void main(String[] args) throws Exception {
        ChangesTest.all();
        QuestionsTest.all();
        TextsTest.all();
        AccountsTest.all();
        ModelTest.all();
        RoomTest.all();
        if (args.length > 0) {
            RulesTest.all(args[0]);
        }
        SentencesTest.all(args.length > 1 ? args[1] : "../shared/DOC.md");
        System.out.println("project: " + Check.passed + " passed, " + Check.failed + " failed");
        System.exit(Check.failed == 0 && Check.passed > 0 ? 0 : 1);
    }
}
