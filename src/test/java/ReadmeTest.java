/** The lines that README.md shows answer what is written beside them. */
public final class ReadmeTest {
    public static void main(String[] args) {
        FinalityTree tree = new FinalityTree(3, 0, 2);
        int block = tree.propose(0, 2);
        Due.same("block", block, 1);
        int first = tree.vote(0, block, 2);
        int second = tree.vote(1, block, 2);
        Due.same("include(first)", tree.include(first), 1);
        Due.same("include(second)", tree.include(second), 2);
        int next = tree.propose(block, 3);
        Due.same("next", next, 2);
        Due.same("block(next, 4)", tree.block(next, 4), 1);
        Due.yes("give(0, block)", tree.give(0, block));
        Due.yes("give(0, next)", tree.give(0, next));
        Due.same("head(0)", tree.head(0), 2);
        Due.end();
    }
}
