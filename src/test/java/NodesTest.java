/** Promises 12 to 16: give, hear, knows, head and checkpoint. */
public final class NodesTest {
    public static void main(String[] args) {
        giveNeedsTheParent();
        giveWrong();
        giveTellsVotes();
        giveTellsVotesOfEvidence();
        hearOnce();
        nodesAreApart();
        headWithoutVotes();
        headByWeight();
        headByLatestVote();
        headByVotesForUnknownBlocks();
        headStartsAtJustified();
        headWrong();
        justifiedOfGreaterEpochOnly();
        finalForgetsTheRest();
        finalKeepsAJustifiedThatIsKnown();
        finalDropsAJustifiedThatIsForgotten();
        finalTakesAJustifiedOfGreaterEpoch();
        finalOfGreaterEpochOnly();
        checkpointWrong();
        Due.end();
    }

    private static void checkpoints(FinalityTree x, int n, int... want) {
        for (int what = 0; what < 4; what++) {
            Due.same("checkpoint(" + n + ", " + what + ")", x.checkpoint(n, what), want[what]);
        }
    }

    private static void giveNeedsTheParent() {
        FinalityTree x = new FinalityTree(3, 0, 2);
        x.propose(0, 1);
        x.propose(1, 2);
        Due.no("its parent is not known", x.give(0, 2));
        Due.no("so it isn't known", x.knows(0, 2));
        Due.yes("block 1", x.give(0, 1));
        Due.yes("knows block 1", x.knows(0, 1));
        Due.no("block 1 again", x.give(0, 1));
        Due.yes("block 2", x.give(0, 2));
        Due.yes("knows block 2", x.knows(0, 2));
        Due.yes("still knows block 0", x.knows(0, 0));
    }

    private static void giveWrong() {
        FinalityTree x = new FinalityTree(3, 0, 2);
        x.propose(0, 1);
        Due.no("node -1", x.give(-1, 1));
        Due.no("node 3", x.give(3, 1));
        Due.no("block -1", x.give(0, -1));
        Due.no("block 2 of 2", x.give(0, 2));
        Due.no("block 64", x.give(0, 64));
        Due.no("block 0 is known", x.give(0, 0));
        Due.no("knows(-1, 0)", x.knows(-1, 0));
        Due.no("knows(3, 0)", x.knows(3, 0));
        Due.no("knows(0, -1)", x.knows(0, -1));
        Due.no("knows(0, 1)", x.knows(0, 1));
        Due.no("knows(0, 64)", x.knows(0, 64));
        Due.yes("the last node", x.give(2, 1));
        Due.yes("the last node knows it", x.knows(2, 1));
    }

    private static void giveTellsVotes() {
        FinalityTree x = new FinalityTree(4, 0, 2);
        x.propose(0, 2);
        x.vote(0, 1, 2);
        x.vote(1, 1, 2);
        x.vote(2, 1, 2);
        x.include(0);
        x.include(1);
        x.propose(1, 3);
        x.give(0, 1);
        x.give(0, 2);
        Due.no("heard vote 0", x.hear(0, 0));
        Due.no("heard vote 1", x.hear(0, 1));
        Due.yes("did not hear vote 2", x.hear(0, 2));
        Due.yes("another node did not hear vote 0", x.hear(1, 0));
    }

    private static void giveTellsVotesOfEvidence() {
        FinalityTree x = new FinalityTree(4, 0, 2);
        x.propose(0, 2);
        x.propose(0, 3);
        x.vote(3, 1, 3);
        x.vote(0, 1, 3);
        x.vote(0, 2, 3);
        x.vote(1, 1, 3);
        x.include(3);
        x.accuse(2, 1);
        Due.same("a vote and evidence", x.propose(1, 4), 3);
        Due.no("not given: its parent is missing", x.give(0, 3));
        x.give(0, 1);
        Due.same("a block that isn't given tells no votes", x.guilty(1, false), 0);
        x.give(0, 3);
        Due.same("heard both", x.guilty(1, false), 1);
        Due.no("heard vote 1", x.hear(0, 1));
        Due.no("heard vote 2", x.hear(0, 2));
        Due.no("heard vote 3", x.hear(0, 3));
        Due.yes("did not hear vote 0, which is in no block", x.hear(0, 0));
        x.give(0, 2);
        // For block 1 are validators 1 and 3, for block 2 is validator 0 by its latest vote.
        Due.same("head", x.head(0), 3);
    }

    private static void hearOnce() {
        FinalityTree x = new FinalityTree(3, 0, 2);
        x.vote(0, 0, 2);
        Due.no("node -1", x.hear(-1, 0));
        Due.no("node 3", x.hear(3, 0));
        Due.no("vote -1", x.hear(0, -1));
        Due.no("vote 1 of 1", x.hear(0, 1));
        Due.no("vote 80", x.hear(0, 80));
        Due.yes("vote 0", x.hear(0, 0));
        Due.no("vote 0 again", x.hear(0, 0));
        Due.yes("the last node", x.hear(2, 0));
    }

    private static void nodesAreApart() {
        FinalityTree x = new FinalityTree(3, 0, 2);
        x.propose(0, 1);
        x.give(1, 1);
        Due.no("node 0", x.knows(0, 1));
        Due.yes("node 1", x.knows(1, 1));
        Due.no("node 2", x.knows(2, 1));
        Due.same("head of node 0", x.head(0), 0);
        Due.same("head of node 1", x.head(1), 1);
    }

    private static void headWithoutVotes() {
        FinalityTree x = new FinalityTree(3, 0, 2);
        x.propose(0, 5);
        x.propose(0, 2);
        x.propose(1, 6);
        x.propose(1, 7);
        x.give(0, 2);
        x.give(0, 1);
        x.give(0, 4);
        Due.same("not the one that was given first", x.head(0), 4);
        x.give(0, 3);
        Due.same("the lowest numbers", x.head(0), 3);
        x.give(1, 2);
        Due.same("the only known child", x.head(1), 2);
    }

    private static void headByWeight() {
        // Weights 3, 1, 1 and 2.
        FinalityTree x = new FinalityTree(4, 0x1002, 2);
        x.propose(0, 2);
        x.propose(0, 2);
        x.propose(0, 2);
        x.vote(0, 1, 2);
        x.vote(1, 2, 2);
        x.vote(2, 2, 2);
        x.vote(3, 3, 2);
        x.give(0, 1);
        x.give(0, 2);
        x.give(0, 3);
        x.hear(0, 3);
        Due.same("2 for block 3", x.head(0), 3);
        x.hear(0, 1);
        Due.same("1 for block 2", x.head(0), 3);
        x.hear(0, 2);
        Due.same("2 for block 2", x.head(0), 2);
        x.hear(0, 0);
        Due.same("3 for block 1", x.head(0), 1);
        x.propose(3, 3);
        x.give(0, 4);
        x.vote(1, 4, 3);
        x.hear(0, 4);
        Due.same("3 for what descends from block 3, which ties", x.head(0), 1);
        x.vote(2, 4, 3);
        x.hear(0, 5);
        Due.same("4 for what descends from block 3", x.head(0), 4);
    }

    private static void headByLatestVote() {
        FinalityTree x = new FinalityTree(3, 0, 5);
        x.propose(0, 2);
        x.propose(0, 3);
        x.vote(0, 2, 6);
        x.vote(0, 1, 6);
        x.vote(0, 2, 5);
        x.vote(0, 2, 7);
        x.give(0, 1);
        x.give(0, 2);
        x.hear(0, 2);
        Due.same("slot 5 for block 2", x.head(0), 2);
        x.hear(0, 1);
        Due.same("slot 6 for block 1", x.head(0), 1);
        x.hear(0, 0);
        Due.same("of slot 6 the greatest number", x.head(0), 1);
        x.hear(0, 3);
        Due.same("slot 7 for block 2", x.head(0), 2);
        x.give(1, 1);
        x.give(1, 2);
        x.hear(1, 0);
        Due.same("vote 0 alone", x.head(1), 2);
        x.hear(1, 1);
        Due.same("vote 1 behind vote 0", x.head(1), 1);
        x.hear(1, 2);
        Due.same("a lower slot of a greater number", x.head(1), 1);
    }

    private static void headByVotesForUnknownBlocks() {
        FinalityTree x = new FinalityTree(3, 0, 2);
        x.propose(0, 2);
        x.propose(0, 3);
        x.propose(2, 4);
        x.vote(0, 3, 4);
        x.hear(0, 0);
        Due.same("nothing known but block 0", x.head(0), 0);
        x.give(0, 1);
        Due.same("block 2 is not known", x.head(0), 1);
        x.give(0, 2);
        Due.same("the vote's head is not known, its parent is", x.head(0), 2);
        x.give(0, 3);
        Due.same("now it is", x.head(0), 3);
    }

    /** Block 1 of slot 2 and block 2, which justifies it; blocks 3 and 4 beside them. */
    private static FinalityTree withJustified() {
        FinalityTree x = new FinalityTree(3, 0, 2);
        x.propose(0, 2);
        x.vote(0, 1, 2);
        x.vote(1, 1, 2);
        x.include(0);
        x.include(1);
        x.propose(1, 3);
        x.propose(0, 3);
        x.propose(3, 4);
        return x;
    }

    private static void headStartsAtJustified() {
        FinalityTree x = withJustified();
        x.vote(0, 4, 5);
        x.vote(1, 4, 5);
        x.vote(2, 4, 5);
        for (int n = 0; n < 2; n++) {
            x.hear(n, 2);
            x.hear(n, 3);
            x.hear(n, 4);
            x.give(n, 1);
            x.give(n, 3);
            x.give(n, 4);
        }
        Due.same("all are for block 4", x.head(0), 4);
        x.give(0, 2);
        checkpoints(x, 0, 1, 1, 0, 0);
        Due.yes("what lies beside is still known", x.knows(0, 4));
        Due.same("the justified block holds it", x.head(0), 2);
        Due.same("the other node has not seen it", x.head(1), 4);
    }

    private static void headWrong() {
        FinalityTree x = new FinalityTree(3, 0, 2);
        Due.same("head(-1)", x.head(-1), -1);
        Due.same("head(3)", x.head(3), -1);
        Due.same("head(2)", x.head(2), 0);
    }

    private static void justifiedOfGreaterEpochOnly() {
        FinalityTree x = withJustified();
        x.vote(0, 3, 3);
        x.vote(2, 3, 3);
        x.include(2);
        x.include(3);
        Due.same("justifies epoch 1 of the other chain", x.propose(3, 4), 5);
        Due.same("by block 0", x.block(5, 5), 0);
        x.vote(1, 4, 4);
        x.vote(2, 4, 4);
        x.include(4);
        x.include(5);
        Due.same("justifies epoch 2 there", x.propose(4, 5), 6);
        Due.same("by block 4", x.block(6, 5), 4);
        Due.same("final is epoch 0 there", x.block(6, 6), 0);
        x.give(0, 1);
        x.give(0, 2);
        x.give(0, 3);
        x.give(0, 4);
        checkpoints(x, 0, 1, 1, 0, 0);
        x.give(0, 5);
        checkpoints(x, 0, 1, 1, 0, 0);
        x.give(0, 6);
        checkpoints(x, 0, 2, 4, 0, 0);
        x.give(1, 3);
        x.give(1, 5);
        checkpoints(x, 1, 1, 0, 0, 0);
        x.give(1, 1);
        x.give(1, 2);
        checkpoints(x, 1, 1, 0, 0, 0);
    }

    /** Behind withJustified: votes 2 and 3 and blocks 5 and 6, which makes epoch 1 and block 1 final. */
    private static FinalityTree withFinal() {
        FinalityTree x = withJustified();
        x.propose(2, 4);
        x.vote(0, 5, 4);
        x.vote(1, 5, 4);
        x.include(2);
        x.include(3);
        x.propose(5, 5);
        return x;
    }

    private static void finalForgetsTheRest() {
        FinalityTree x = withFinal();
        Due.same("final epoch", x.block(6, 6), 1);
        Due.same("final block", x.block(6, 7), 1);
        for (int b = 1; b <= 5; b++) {
            x.give(0, b);
        }
        for (int b = 0; b <= 5; b++) {
            Due.yes("knows " + b, x.knows(0, b));
        }
        x.give(0, 6);
        checkpoints(x, 0, 2, 5, 1, 1);
        int[] known = {0, 1, 1, 0, 0, 1, 1};
        for (int b = 0; b <= 6; b++) {
            Due.same("knows " + b, x.knows(0, b) ? 1 : 0, known[b]);
        }
        Due.no("block 0 has no parent to be known", x.give(0, 0));
        Due.no("block 3's parent is forgotten", x.give(0, 3));
        Due.no("block 4's parent is forgotten", x.give(0, 4));
        x.propose(1, 5);
        Due.yes("a new child of the final block", x.give(0, 7));
        Due.same("head", x.head(0), 6);
        Due.no("votes stay heard", x.hear(0, 0));
        checkpoints(x, 1, 0, 0, 0, 0);
    }

    /**
     * Behind withFinal: a chain from block 2 on by blocks 7 (slot 6) and 8, which justifies epoch 3 and
     * block 7 out of epoch 1 and so makes nothing final.
     */
    private static FinalityTree withTwoBranches() {
        FinalityTree x = withFinal();
        x.propose(2, 6);
        x.vote(0, 7, 6);
        x.vote(1, 7, 6);
        x.include(4);
        x.include(5);
        Due.same("block 8", x.propose(7, 7), 8);
        Due.same("justified epoch", x.block(8, 4), 3);
        Due.same("justified block", x.block(8, 5), 7);
        Due.same("final epoch", x.block(8, 6), 0);
        return x;
    }

    private static void finalKeepsAJustifiedThatIsKnown() {
        FinalityTree x = withTwoBranches();
        x.give(0, 1);
        x.give(0, 2);
        x.give(0, 7);
        x.give(0, 8);
        checkpoints(x, 0, 3, 7, 0, 0);
        x.give(0, 5);
        x.give(0, 6);
        checkpoints(x, 0, 3, 7, 1, 1);
        Due.yes("block 7 descends from the final one", x.knows(0, 7));
        Due.no("block 0 does not", x.knows(0, 0));
        Due.same("head", x.head(0), 8);
    }

    /** The final block lies beside the justified one, which has a greater epoch than the state's. */
    private static void finalDropsAJustifiedThatIsForgotten() {
        FinalityTree x = withFinal();
        x.vote(0, 4, 8);
        x.vote(1, 4, 8);
        x.include(4);
        x.include(5);
        Due.same("justifies epoch 4 beside", x.propose(4, 9), 7);
        x.give(0, 3);
        x.give(0, 4);
        x.give(0, 7);
        checkpoints(x, 0, 4, 4, 0, 0);
        x.give(0, 1);
        x.give(0, 2);
        x.give(0, 5);
        checkpoints(x, 0, 4, 4, 0, 0);
        Due.same("head", x.head(0), 7);
        x.give(0, 6);
        checkpoints(x, 0, 2, 5, 1, 1);
        Due.no("block 4 is forgotten", x.knows(0, 4));
        Due.no("block 7 is forgotten", x.knows(0, 7));
        Due.same("head behind that", x.head(0), 6);
    }

    private static void finalTakesAJustifiedOfGreaterEpoch() {
        FinalityTree x = withTwoBranches();
        x.propose(6, 6);
        x.vote(0, 9, 6);
        x.vote(1, 9, 6);
        x.include(6);
        x.include(7);
        Due.same("epoch 2 becomes final", x.propose(9, 7), 10);
        for (int b = 1; b <= 6; b++) {
            x.give(0, b);
        }
        checkpoints(x, 0, 2, 5, 1, 1);
        x.give(0, 7);
        x.give(0, 8);
        checkpoints(x, 0, 3, 7, 1, 1);
        x.give(0, 9);
        checkpoints(x, 0, 3, 7, 1, 1);
        x.give(0, 10);
        checkpoints(x, 0, 3, 9, 2, 5);
        Due.no("block 7 is forgotten", x.knows(0, 7));
        Due.no("block 1 is forgotten", x.knows(0, 1));
        Due.yes("block 5 is the root", x.knows(0, 5));
        Due.same("head", x.head(0), 10);
    }

    /** Votes of validators 0 and 1 for the parent, put into a block of the slot behind it. */
    private static int proposeWithVotes(FinalityTree x, int parent) {
        int slot = x.block(parent, 1);
        x.include(x.vote(0, parent, slot));
        x.include(x.vote(1, parent, slot));
        return x.propose(parent, slot + 1);
    }

    /** Two chains from block 0 on: in epoch 1 the one makes block 0 final, the other block 2. */
    private static void finalOfGreaterEpochOnly() {
        FinalityTree x = new FinalityTree(3, 0, 2);
        x.propose(0, 3);
        x.propose(0, 2);
        Due.same("justifies block 0 for epoch 1", proposeWithVotes(x, 1), 3);
        Due.same("justifies block 3 for epoch 2", proposeWithVotes(x, 3), 4);
        Due.same("final epoch", x.block(4, 6), 1);
        Due.same("final block", x.block(4, 7), 0);
        Due.same("justifies block 2 for epoch 1", proposeWithVotes(x, 2), 5);
        Due.same("block 6", x.propose(5, 4), 6);
        Due.same("justifies block 6 for epoch 2", proposeWithVotes(x, 6), 7);
        Due.same("final epoch", x.block(7, 6), 1);
        Due.same("final block", x.block(7, 7), 2);
        for (int b = 1; b <= 7; b++) {
            Due.yes("give " + b, x.give(0, b));
        }
        checkpoints(x, 0, 2, 3, 1, 0);
        for (int b = 0; b <= 7; b++) {
            Due.yes("knows " + b, x.knows(0, b));
        }
        Due.same("head", x.head(0), 4);
    }

    private static void checkpointWrong() {
        FinalityTree x = new FinalityTree(3, 0, 2);
        Due.same("node -1", x.checkpoint(-1, 0), -1);
        Due.same("node 3", x.checkpoint(3, 0), -1);
        Due.same("what -1", x.checkpoint(0, -1), -1);
        Due.same("what 4", x.checkpoint(0, 4), -1);
    }
}
