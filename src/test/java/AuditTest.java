/** Promises 17 to 19: conflict, guilty and proof. */
public final class AuditTest {
    public static void main(String[] args) {
        conflictOfTwoChains();
        conflictWrong();
        guiltyOfAllVotes();
        guiltyOfHeardVotes();
        guiltyBySurrounding();
        proofIsTheLowest();
        proofWithAllVotes();
        proofWrong();
        Due.end();
    }

    /** Votes of three validators from this one on, put into a block that is made next. */
    private static int voteAndPropose(FinalityTree x, int first, int voteHead, int parent, int slot) {
        for (int v = first; v < first + 3; v++) {
            x.include(x.vote(v, voteHead, slot - 1));
        }
        return x.propose(parent, slot);
    }

    /**
     * Two chains of four validators: on one blocks 1, 3, 5, 7 with block 1 final, on the other 2, 4, 6, 8
     * with block 2 final. Both are final in epoch 1; 0, 1 and 2 vote for the one, 1, 2 and 3 for the other.
     */
    private static FinalityTree withTwoFinals() {
        FinalityTree x = new FinalityTree(4, 0x1321, 2);
        x.propose(0, 1);
        x.propose(0, 2);
        Due.same("block 3", voteAndPropose(x, 0, 1, 1, 3), 3);
        Due.same("block 4", voteAndPropose(x, 1, 2, 2, 3), 4);
        x.propose(3, 4);
        x.propose(4, 4);
        Due.same("block 7", voteAndPropose(x, 0, 5, 5, 5), 7);
        Due.same("block 8", voteAndPropose(x, 1, 6, 6, 5), 8);
        Due.same("one final block", x.block(7, 7), 1);
        Due.same("another final block", x.block(8, 7), 2);
        Due.same("its epoch", x.block(7, 6), 1);
        Due.same("its epoch", x.block(8, 6), 1);
        return x;
    }

    private static void giveRow(FinalityTree x, int n, int... row) {
        for (int b : row) {
            Due.yes("give(" + n + ", " + b + ")", x.give(n, b));
        }
    }

    private static void conflictOfTwoChains() {
        FinalityTree x = withTwoFinals();
        giveRow(x, 0, 1, 3, 5);
        giveRow(x, 1, 2, 4, 6, 8);
        Due.same("only justified", x.checkpoint(0, 1), 1);
        Due.no("block 0 and block 2", x.conflict(0, 1));
        Due.no("block 2 and block 0", x.conflict(1, 0));
        giveRow(x, 0, 7);
        Due.yes("block 1 and block 2", x.conflict(0, 1));
        Due.yes("the other way round", x.conflict(1, 0));
        Due.no("a node and itself", x.conflict(1, 1));
        Due.no("block 1 descends from block 0", x.conflict(0, 2));
        Due.no("block 0 does not conflict with block 2", x.conflict(2, 1));
        giveRow(x, 2, 1, 3, 5, 7);
        Due.no("two that hold the same", x.conflict(0, 2));
        Due.same("block 9", x.propose(7, 6), 9);
        Due.same("block 10", voteAndPropose(x, 0, 9, 9, 7), 10);
        giveRow(x, 2, 9, 10);
        Due.same("further on the same chain", x.checkpoint(2, 3), 5);
        Due.no("block 5 descends from block 1", x.conflict(0, 2));
        Due.no("and the other way round", x.conflict(2, 0));
        Due.yes("block 5 and block 2", x.conflict(1, 2));
        // Validators 1 and 2 broke the rules, which have the weights 3 and 4.
        Due.same("who broke the rules", x.guilty(3, false), 7);
    }

    private static void conflictWrong() {
        FinalityTree x = withTwoFinals();
        giveRow(x, 0, 1, 3, 5, 7);
        giveRow(x, 1, 2, 4, 6, 8);
        Due.no("node -1", x.conflict(-1, 0));
        Due.no("node 3", x.conflict(3, 0));
        Due.no("other node -1", x.conflict(0, -1));
        Due.no("other node 3", x.conflict(0, 3));
    }

    private static void guiltyOfAllVotes() {
        FinalityTree x = new FinalityTree(7, 0x06543210, 2);
        Due.same("no votes", x.guilty(7, true), 0);
        x.vote(3, 0, 2);
        x.vote(5, 0, 2);
        Due.same("two validators' votes do not clash", x.guilty(7, true), 0);
        x.vote(3, 0, 4);
        Due.same("two epochs", x.guilty(7, true), 0);
        x.vote(3, 0, 5);
        Due.same("validator 3", x.guilty(0, true), 4);
        x.vote(3, 0, 3);
        Due.same("is counted once", x.guilty(0, true), 4);
        x.vote(5, 0, 3);
        Due.same("validators 3 and 5", x.guilty(-1, true), 10);
        Due.same("but nobody has heard them", x.guilty(-1, false), 0);
    }

    private static void guiltyOfHeardVotes() {
        FinalityTree x = new FinalityTree(3, 0x421, 2);
        x.vote(0, 0, 2);
        x.vote(0, 0, 3);
        x.vote(1, 0, 2);
        x.vote(1, 0, 3);
        x.vote(2, 0, 2);
        x.vote(2, 0, 3);
        x.hear(0, 0);
        x.hear(1, 1);
        x.hear(1, 2);
        x.hear(1, 3);
        x.hear(2, 4);
        x.hear(0, 5);
        // By node: 0 has heard 0 and 5, 1 has heard 1, 2 and 3, 2 has heard 4; weights 2, 3 and 5.
        int[] want = {0, 0, 3, 5, 0, 5, 3, 10};
        for (int set = 0; set < 8; set++) {
            Due.same("guilty(" + set + ", false)", x.guilty(set, false), want[set]);
            Due.same("guilty(" + set + ", true)", x.guilty(set, true), 10);
            Due.same("other bits", x.guilty(set | 0xFFFFFFF8, false), want[set]);
            Due.same("other bits", x.guilty(set | 8, false), want[set]);
        }
    }

    /** Votes 2: epoch 1 to 2, and 4: epoch 0 to 3, both of validator 0. */
    private static void guiltyBySurrounding() {
        FinalityTree x = new FinalityTree(3, 0x55, 2);
        x.propose(0, 2);
        x.vote(0, 1, 2);
        x.vote(1, 1, 2);
        x.include(0);
        x.include(1);
        Due.same("justifies epoch 1", x.propose(1, 3), 2);
        Due.same("epoch 1 to 2", x.vote(0, 2, 4), 2);
        Due.same("epoch 1 to 3", x.vote(1, 2, 6), 3);
        Due.same("nothing yet", x.guilty(0, true), 0);
        Due.same("epoch 0 to 3", x.vote(0, 1, 6), 4);
        Due.same("surrounds", x.guilty(0, true), 6);
        x.hear(0, 4);
        x.hear(2, 2);
        Due.same("heard by two nodes", x.guilty(5, false), 6);
        Due.same("heard by one of them", x.guilty(1, false), 0);
        Due.same("proof", x.proof(0), 204);
    }

    private static void proofIsTheLowest() {
        FinalityTree x = new FinalityTree(3, 0, 2);
        x.vote(1, 0, 4);
        x.vote(1, 0, 2);
        x.vote(1, 0, 3);
        x.vote(0, 0, 2);
        x.vote(1, 0, 5);
        x.vote(2, 0, 5);
        Due.same("nobody has heard", x.proof(1), -3);
        x.hear(0, 4);
        Due.same("one is heard", x.proof(1), -3);
        x.hear(0, 1);
        Due.same("no two of one epoch", x.proof(1), -3);
        x.hear(1, 2);
        Due.same("votes 1 and 2, of two nodes", x.proof(1), 102);
        x.hear(2, 0);
        Due.same("votes 0 and 4 have the lowest first", x.proof(1), 4);
        x.vote(0, 0, 3);
        x.vote(0, 1, 3);
        x.propose(0, 2);
        Due.same("vote 7", x.vote(0, 1, 3), 7);
        x.hear(0, 7);
        x.hear(0, 3);
        Due.same("vote 6 is not heard", x.proof(0), 307);
        x.hear(2, 6);
        Due.same("the lowest second one", x.proof(0), 306);
        Due.same("one vote alone", x.proof(2), -3);
    }

    /** 80 votes, each of an epoch of its own but for the last two. */
    private static void proofWithAllVotes() {
        FinalityTree x = new FinalityTree(3, 0, 2);
        for (int i = 0; i < 78; i++) {
            x.vote(i % 2, 0, 2 + 2 * i);
        }
        x.vote(2, 0, 238);
        Due.same("the last vote", x.vote(2, 0, 239), 79);
        Due.same("no vote more", x.vote(2, 0, 2), -2);
        Due.same("guilty of all", x.guilty(0, true), 1);
        for (int i = 0; i < 80; i++) {
            Due.yes("hear " + i, x.hear(i % 3, i));
        }
        Due.same("guilty of the heard", x.guilty(7, false), 1);
        Due.same("proof(2)", x.proof(2), 7879);
        Due.same("proof(0)", x.proof(0), -3);
    }

    private static void proofWrong() {
        FinalityTree x = new FinalityTree(4, 0, 2);
        x.vote(3, 0, 2);
        x.vote(3, 0, 3);
        x.hear(0, 0);
        x.hear(0, 1);
        Due.same("validator -1", x.proof(-1), -1);
        Due.same("validator 4 of 4", x.proof(4), -1);
        Due.same("the last validator", x.proof(3), 1);
    }
}
