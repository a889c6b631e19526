/** Runs all tests of the project. */
public final class AllTests {
    private AllTests() {
    }

    public static void main(String[] args) throws Exception {
        SettingsTest.run();
        CuesTest.run();
        TextsTest.run();
        TakeRulesTest.run();
        TakesTest.run();
        HistoryTest.run();
        ErrorsTest.run();
        PlainBoardTest.run();
        FaceTest.run();
        ReadmeTest.run();
        LanguageTest.run();
        SentencesTest.run();
        Check.finish();
    }
}
