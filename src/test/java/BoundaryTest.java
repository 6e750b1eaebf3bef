/** Each sentence of the document that names a boundary case, by a test of its own that quotes it. */
public final class BoundaryTest {
    public static void main(String[] args) {
        Boundary boundary = new Boundary();
        new TermBoundaries(boundary).run();
        new RowBoundaries(boundary).run();
        new LawBoundaries(boundary).run();
        new WorldBoundaries(boundary).run();
        new LearnBoundaries(boundary).run();
        new ToldBoundaries(boundary).run();
        boundary.end("Not promised", "The public face");
    }
}
