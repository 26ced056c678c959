/** Each sentence of ../shared/DOC.md that names an edge has a test of its own, and holds. */
public final class BoundariesTest {
  public static void main(String[] args) {
    DescriptionBoundaries.all();
    TableBoundaries.all();
    WalkBoundaries.all();
    AskingBoundaries.all();
    HouseBoundaries.all();
    Sentences.allTested();
    Checks.end();
  }
}
