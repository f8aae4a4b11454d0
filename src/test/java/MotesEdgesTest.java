/** Each sentence of the document that names a boundary has runs of its own here, and they hold. */
public final class MotesEdgesTest {
  public static void main(String[] args) throws Exception {
    Edges edges = new Edges(MotesHaveASeat.class);
    tell(edges);
    edges.end();
  }

  static void tell(Edges edges) {
    HallEdges.tell(edges);
    StepEdges.tell(edges);
    ComesEdges.tell(edges);
    ShelfEdges.tell(edges);
    ShelfPromises.tell(edges);
    HallPromises.tell(edges);
    AheadPromises.tell(edges);
    MorePromises.tell(edges);
    TruthPromises.tell(edges);
  }
}
