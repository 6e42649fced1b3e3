/**
 * Each sentence of the document, but those of what isn't promised, by a test of its own: it begins with the part
 * it stands in and the sentence's own words. Whether they stand there, and whether any words are left without a
 * test, is held against ../shared/DOC.md. Run from the project's root.
 */
public final class BoundsTest {
  private BoundsTest() { }

  public static void main(String[] args) {
    Doc.read();
    HeadTerms.all();
    SaleTerms.all();
    MorningTerms.all();
    ComesTerms.all();
    RefusalTerms.all();
    ShelfPromises.all();
    TellPromises.all();
    LookPromises.all();
    BestPromises.all();
    TruthPromises.all();
    int wrong = Check.end() + Doc.unheld();
    System.out.println(Doc.parts() + " parts of the document" + (wrong == 0 ? " are held, every word" : ", and not all is held"));
    if (wrong != 0) System.exit(1);
  }
}
