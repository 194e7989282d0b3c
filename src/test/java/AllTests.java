/** Runs the project's tests; its argument is the path of the program's source. */
public final class AllTests {
    private AllTests() {
    }

    public static void main(String[] args) {
        FaceTests.run(args.length > 0 ? args[0] : "src/main/java/CamDrum.java");
        SettingTests.run();
        TickTests.run();
        AnswerTests.run();
        QuestionTests.run();
        TextTests.run();
        StateTests.run();
        SettingEdgeTests.run();
        TickEdgeTests.run();
        AnswerEdgeTests.run();
        QuestionEdgeTests.run();
        TextEdgeTests.run();
        StateEdgeTests.run();
        ReferenceTests.run();
        System.out.println("project: " + Check.passed() + " passed, " + Check.failed() + " failed");
        if (Check.failed() > 0 || Check.passed() == 0) {
            System.exit(1);
        }
    }
}
