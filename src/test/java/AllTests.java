/** The project's own tests. */
public final class AllTests {
  private static final int PROMISES = 33;

  private AllTests() {}

  public static void main(String[] arguments) {
    TokensTest.run();
    ComponentsTest.run();
    PagesTest.run();
    ChecksTest.run();
    PublishingTest.run();
    DeprecationsTest.run();
    FiguresTest.run();
    TokenEdgesTest.run();
    ValueEdgesTest.run();
    ComponentEdgesTest.run();
    PageEdgesTest.run();
    CheckEdgesTest.run();
    PublishingEdgesTest.run();
    SnapshotEdgesTest.run();
    DeprecationEdgesTest.run();
    FigureEdgesTest.run();
    FullTest.run();
    FaceTest.run();
    LanguageTest.run();
    ObjectsTest.run();
    ReadmeTest.run();
    ArgumentsTest.run();
    ModelTest.run();
    Testing.test("each promise has a test that bears its name", AllTests::names);
    if (!Testing.finish()) {
      System.exit(1);
    }
  }

  private static void names() {
    for (int promise = 1; promise <= PROMISES; promise++) {
      Testing.same(true, Testing.hasTestOf("promise " + promise));
    }
  }
}
