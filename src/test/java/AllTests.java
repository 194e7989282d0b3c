/** Runs the project's tests; its arguments are the paths of the program's source and of the README. */
public final class AllTests {
    private AllTests() {
    }

    public static void main(String[] args) {
        FaceTests.run(args.length > 0 ? args[0] : "src/main/java/CamDrum.java");
        ReadmeTests.run(args.length > 1 ? args[1] : "README.md");
        SettingTests.run();
        TickTests.run();
        AnswerTests.run();
        QuestionTests.run();
        TextTests.run();
        StateTests.run();
        SettingEdgeTests.run();
        TickEdgeTests.run();
        AnswerEdgeTests.run();
        QuestionEdgeTests.run();
        TextEdgeTests.run();
        StateEdgeTests.run();
        ReferenceTests.run();
        System.out.println("project: " + Check.passed() + " passed, " + Check.failed() + " failed");
        if (Check.failed() > 0 || Check.passed() == 0) {
            System.exit(1);
        }
    }
}
