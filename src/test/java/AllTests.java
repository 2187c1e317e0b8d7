/** The project's own tests. */
public final class AllTests {
  private AllTests() {}

  public static void main(String[] arguments) {
    TokensTest.run();
    ComponentsTest.run();
    PagesTest.run();
    ChecksTest.run();
    PublishingTest.run();
    DeprecationsTest.run();
    FiguresTest.run();
    TokenEdgesTest.run();
    ValueEdgesTest.run();
    ComponentEdgesTest.run();
    PageEdgesTest.run();
    CheckEdgesTest.run();
    PublishingEdgesTest.run();
    SnapshotEdgesTest.run();
    DeprecationEdgesTest.run();
    FigureEdgesTest.run();
    FullTest.run();
    FaceTest.run();
    LanguageTest.run();
    ModelTest.run();
    if (!Testing.finish()) {
      System.exit(1);
    }
  }
}
