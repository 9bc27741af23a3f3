/** A new object, and what is told of its nodes. */
public final class NodesTest {
    public static void main(String[] args) {
        Treequery x = new Treequery();
        Due.is("made", 1, x.made());
        Due.end();
    }
}
