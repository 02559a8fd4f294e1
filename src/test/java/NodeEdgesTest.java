/** The boundary cases of promises 12 to 16, the nodes: one test for each sentence. */
public final class NodeEdgesTest {
    public static void main(String[] args) {
        giveToNoSuchNode();
        giveOfNoSuchBlock();
        giveOfWhatIsKnown();
        giveWithoutTheParent();
        giveOfBlockZero();
        giveOfWhatIsForgotten();
        giveTellsAllFourItems();
        hearOfNoSuchNode();
        hearOfNoSuchVote();
        hearOfWhatIsHeard();
        heardStaysHeard();
        knowsOfNone();
        headOfNoSuchNode();
        headWithoutAChild();
        headOfSeveralIsTheLowest();
        headOfOneMore();
        headWithoutWhatIsNotHeard();
        headByTheGreatestSlot();
        headByTheGreatestNumberOfOneSlot();
        headByWhatTheNodeDoesNotKnow();
        headBehindSixtyBlocks();
        checkpointOfNoSuchNode();
        checkpointOfAnyOtherNumber();
        finalOfTheSameEpoch();
        finalOfAGreaterEpoch();
        finalAmongSixtyBlocks();
        justifiedOfTheSameEpoch();
        justifiedOfAGreaterEpoch();
        justifiedThatIsKnownStays();
        justifiedThatIsForgottenGoes();
        Due.end();
    }

    private static void checkpoints(String named, FinalityTree x, int n, int... want) {
        for (int what = 0; what < 4; what++) {
            Due.same(named + ": checkpoint(" + n + ", " + what + ")", x.checkpoint(n, what), want[what]);
        }
    }

    private static void giveAll(FinalityTree x, int n, int... row) {
        for (int b : row) {
            Due.yes("give(" + n + ", " + b + ")", x.give(n, b));
        }
    }

    private static void knowsJust(FinalityTree x, int n, int... row) {
        long known = 0;
        for (int b : row) {
            known |= 1L << b;
        }
        for (int b = 0; x.block(b, 1) != -1; b++) {
            Due.same("knows(" + n + ", " + b + ")", x.knows(n, b) ? 1 : 0, known >> b & 1);
        }
    }

    /** Votes of validators 0 and 1 of three for this block and slot, put into a block of the slot behind. */
    private static int justify(FinalityTree x, int head, int slot) {
        x.include(x.vote(0, head, slot));
        x.include(x.vote(1, head, slot));
        return x.propose(head, slot + 1);
    }

    /** "false when there is no such node" */
    private static void giveToNoSuchNode() {
        FinalityTree x = Edges.chainOf(2, 2);
        Edges.no("node", 0, 2, n -> x.give(n, 1));
        for (int n = 0; n < 3; n++) {
            Due.no("not given to " + n, x.knows(n, 1));
            Due.yes("give(" + n + ", 1)", x.give(n, 1));
        }
    }

    /** "false when there is no such .. block" */
    private static void giveOfNoSuchBlock() {
        for (int blocks : new int[] {1, 2, 60}) {
            FinalityTree x = Edges.chainOf(blocks, 2);
            for (int b = 1; b < blocks; b++) {
                Due.yes("give(1, " + b + ")", x.give(1, b));
            }
            Edges.no("block", 0, blocks - 1, b -> x.give(1, b));
            Due.yes("knows the last", x.knows(1, blocks - 1));
        }
    }

    /** "it knows it" */
    private static void giveOfWhatIsKnown() {
        FinalityTree x = Edges.chainOf(3, 2);
        Due.no("block 0 at first", x.give(0, 0));
        Due.yes("block 1", x.give(0, 1));
        Due.no("block 1 again", x.give(0, 1));
        Due.yes("block 1 to another", x.give(1, 1));
        Due.yes("block 2", x.give(0, 2));
        Due.no("block 1 once more", x.give(0, 1));
    }

    /** "or doesn't know its parent" */
    private static void giveWithoutTheParent() {
        FinalityTree x = Edges.chainOf(4, 2);
        Due.no("block 3", x.give(0, 3));
        Due.no("block 2", x.give(0, 2));
        knowsJust(x, 0, 0);
        Due.yes("block 1", x.give(0, 1));
        Due.no("block 3, whose parent's parent is known", x.give(0, 3));
        Due.yes("block 2", x.give(0, 2));
        Due.yes("block 3", x.give(0, 3));
    }

    /** Three validators, epochs of 2 slots: blocks 1 to 4 in a row, 5 beside; epoch 1 and block 1 final in 4. */
    private static FinalityTree withFinal() {
        FinalityTree x = new FinalityTree(3, 0, 2);
        x.propose(0, 2);
        Due.same("justifies epoch 1", justify(x, 1, 2), 2);
        x.propose(2, 4);
        Due.same("justifies epoch 2", justify(x, 3, 4), 4);
        x.propose(0, 3);
        Due.same("final epoch", x.block(4, 6), 1);
        Due.same("final block", x.block(4, 7), 1);
        return x;
    }

    /** "its parent (which block 0 has not)": so it can't be given, known or forgotten */
    private static void giveOfBlockZero() {
        FinalityTree x = withFinal();
        Due.no("known", x.give(0, 0));
        giveAll(x, 0, 1, 2, 3, 4);
        Due.no("forgotten", x.knows(0, 0));
        Due.no("and not to be given", x.give(0, 0));
        Due.no("still forgotten", x.knows(0, 0));
    }

    /** "the node does not know any more what does not descend from that block" */
    private static void giveOfWhatIsForgotten() {
        FinalityTree x = withFinal();
        x.propose(5, 4);
        giveAll(x, 0, 5, 6, 1, 2, 3);
        knowsJust(x, 0, 0, 1, 2, 3, 5, 6);
        giveAll(x, 0, 4);
        knowsJust(x, 0, 1, 2, 3, 4);
        Due.no("its parent is forgotten as well", x.give(0, 5));
        Due.no("so is that of its child", x.give(0, 6));
        Due.same("a child of the final block", x.propose(1, 3), 7);
        giveAll(x, 0, 7);
        knowsJust(x, 0, 1, 2, 3, 4, 7);
        knowsJust(x, 1, 0);
    }

    /** "has heard its votes, those of the evidence too": of the first item and of the fourth */
    private static void giveTellsAllFourItems() {
        FinalityTree x = new FinalityTree(7, 0, 5);
        for (int v = 0; v < 4; v++) {
            x.vote(v, 0, 5);
            x.vote(v, 0, 6);
        }
        x.accuse(1, 0);
        x.include(2);
        x.include(4);
        x.accuse(6, 7);
        Due.same("a block of four items", x.propose(0, 7), 1);
        giveAll(x, 0, 1);
        boolean[] told = {true, true, true, false, true, false, true, true};
        for (int i = 0; i < 8; i++) {
            Due.same("hear(0, " + i + ")", x.hear(0, i) ? 1 : 0, told[i] ? 0 : 1);
            Due.yes("hear(1, " + i + ")", x.hear(1, i));
        }
    }

    /** "false when there is no such node" */
    private static void hearOfNoSuchNode() {
        FinalityTree x = Edges.withVotes(1);
        Edges.no("node", 0, 2, n -> x.hear(n, 0));
        for (int n = 0; n < 3; n++) {
            Due.yes("hear(" + n + ", 0)", x.hear(n, 0));
        }
    }

    /** "false when there is no such .. vote" */
    private static void hearOfNoSuchVote() {
        for (int votes : new int[] {0, 1, 80}) {
            FinalityTree x = Edges.withVotes(votes);
            Edges.no("vote", 0, votes - 1, i -> x.hear(2, i));
            if (votes > 0) {
                Due.yes("the last", x.hear(2, votes - 1));
            }
        }
        FinalityTree y = Edges.withVotes(80);
        Due.yes("the first of 80", y.hear(0, 0));
    }

    /** "or it has heard it" */
    private static void hearOfWhatIsHeard() {
        FinalityTree x = Edges.withVotes(2);
        Due.yes("vote 0", x.hear(0, 0));
        Due.no("vote 0 again", x.hear(0, 0));
        Due.yes("vote 1", x.hear(0, 1));
        Due.yes("vote 0 to another", x.hear(1, 0));
        Due.no("vote 0 to that again", x.hear(1, 0));
    }

    /** Only blocks are forgotten. */
    private static void heardStaysHeard() {
        FinalityTree x = withFinal();
        int beside = x.vote(2, 5, 3);
        Due.yes("hears a vote for block 5", x.hear(0, beside));
        giveAll(x, 0, 5, 1, 2, 3, 4);
        Due.no("block 5 is forgotten", x.knows(0, 5));
        Due.no("the vote is not", x.hear(0, beside));
        Due.no("nor one of a block's", x.hear(0, 0));
    }

    /** "false when there is no such node or block" */
    private static void knowsOfNone() {
        for (int blocks : new int[] {1, 60}) {
            FinalityTree x = Edges.chainOf(blocks, 2);
            for (int b = 1; b < blocks; b++) {
                x.give(2, b);
            }
            Edges.no("node", 0, 2, n -> x.knows(n, 0));
            Edges.no("block", 0, blocks - 1, b -> x.knows(2, b));
            Edges.no("both", 0, blocks - 1, both -> x.knows(both, both));
            Due.yes("the first", x.knows(2, 0));
            Due.yes("the last", x.knows(2, blocks - 1));
            Due.yes("of the first node", x.knows(0, 0));
        }
    }

    /** "BAD when there is no such node" */
    private static void headOfNoSuchNode() {
        FinalityTree x = Edges.chainOf(2, 2);
        x.give(2, 1);
        Edges.bad("head", 0, 2, x::head);
        Due.same("of node 0", x.head(0), 0);
        Due.same("of node 2", x.head(2), 1);
    }

    /** "until there is no child" (known to the node) */
    private static void headWithoutAChild() {
        FinalityTree x = Edges.chainOf(3, 2);
        Due.same("no child is known", x.head(0), 0);
        x.give(0, 1);
        Due.same("no child's child is known", x.head(0), 1);
        x.give(0, 2);
        Due.same("there is no further one", x.head(0), 2);
    }

    /** Blocks 1, 2 and 3 beside each other, known to node 0; the weights are 2, 2, 1 and 1. */
    private static FinalityTree withThreeBranches() {
        FinalityTree x = new FinalityTree(4, 0x0011, 2);
        for (int b = 1; b <= 3; b++) {
            x.propose(0, 2);
        }
        giveAll(x, 0, 3, 2, 1);
        return x;
    }

    /** "of several to that of the lowest number" */
    private static void headOfSeveralIsTheLowest() {
        FinalityTree x = withThreeBranches();
        Due.same("none has a vote", x.head(0), 1);
        x.hear(0, x.vote(0, 3, 2));
        Due.same("2 for block 3", x.head(0), 3);
        x.hear(0, x.vote(1, 2, 2));
        Due.same("2 for each of blocks 2 and 3", x.head(0), 2);
        x.hear(0, x.vote(2, 1, 2));
        Due.same("1 for block 1", x.head(0), 2);
        x.hear(0, x.vote(3, 1, 2));
        Due.same("2 for each", x.head(0), 1);
    }

    /** "for which the weights of the validators are greatest" */
    private static void headOfOneMore() {
        FinalityTree x = withThreeBranches();
        x.hear(0, x.vote(0, 1, 2));
        x.hear(0, x.vote(1, 3, 2));
        Due.same("2 and 2", x.head(0), 1);
        x.hear(0, x.vote(2, 3, 2));
        Due.same("2 and 3", x.head(0), 3);
        x.hear(0, x.vote(3, 1, 2));
        Due.same("3 and 3", x.head(0), 1);
        x.hear(0, x.vote(3, 0, 3));
        Due.same("2 and 3, for a vote for block 0 is for no child", x.head(0), 3);
    }

    /** "The LATEST vote that a node has heard of a validator": of each one the first vote is not heard */
    private static void headWithoutWhatIsNotHeard() {
        for (int v = 0; v < 4; v++) {
            FinalityTree x = withThreeBranches();
            int first = x.vote(v, 3, 2);
            Due.same("nobody has heard it", x.head(0), 1);
            x.hear(1, first);
            Due.same("another node has", x.head(0), 1);
            x.hear(0, first);
            Due.same("then it counts", x.head(0), 3);
        }
    }

    /** "that of the greatest slot" */
    private static void headByTheGreatestSlot() {
        FinalityTree x = withThreeBranches();
        x.hear(0, x.vote(0, 2, 3));
        Due.same("slot 3 for block 2", x.head(0), 2);
        x.hear(0, x.vote(0, 3, 2));
        Due.same("slot 2 for block 3, made and heard later", x.head(0), 2);
        x.hear(0, x.vote(0, 3, 4));
        Due.same("slot 4 for block 3", x.head(0), 3);
        x.hear(0, x.vote(0, 2, 240));
        Due.same("slot 240 for block 2", x.head(0), 2);
        x.hear(0, x.vote(0, 3, 239));
        Due.same("slot 239 for block 3", x.head(0), 2);
    }

    /** "of several the one of the greatest number" */
    private static void headByTheGreatestNumberOfOneSlot() {
        FinalityTree x = withThreeBranches();
        int first = x.vote(0, 2, 3);
        int second = x.vote(0, 3, 3);
        int third = x.vote(0, 2, 3);
        Due.same("alike to the first", third, first);
        x.hear(0, second);
        Due.same("the second alone", x.head(0), 3);
        x.hear(0, first);
        Due.same("the first, heard later", x.head(0), 3);
        giveAll(x, 1, 1, 2, 3);
        x.hear(1, first);
        Due.same("the first alone", x.head(1), 2);
        x.hear(1, second);
        Due.same("the second", x.head(1), 3);
    }

    /** "(blocks that the node doesn't know count as well)" */
    private static void headByWhatTheNodeDoesNotKnow() {
        FinalityTree x = withThreeBranches();
        x.propose(2, 3);
        x.propose(4, 4);
        x.hear(0, x.vote(0, 5, 4));
        Due.same("for block 5, which descends from block 2", x.head(0), 2);
        giveAll(x, 0, 4);
        Due.same("as far as it knows", x.head(0), 4);
        x.hear(1, 0);
        giveAll(x, 1, 3, 1);
        Due.same("no known child has a vote", x.head(1), 1);
    }

    private static void headBehindSixtyBlocks() {
        FinalityTree x = Edges.chainOf(60, 2);
        for (int b = 1; b < 60; b++) {
            x.give(0, b);
            Due.same("head", x.head(0), b);
        }
        FinalityTree y = new FinalityTree(3, 0, 2);
        for (int b = 1; b < 60; b++) {
            y.propose(0, 2);
            y.give(0, b);
        }
        Due.same("of 59 children the first", y.head(0), 1);
        y.hear(0, y.vote(0, 59, 2));
        Due.same("of 59 children the last", y.head(0), 59);
    }

    /** "BAD when there is no such node" */
    private static void checkpointOfNoSuchNode() {
        FinalityTree x = new FinalityTree(3, 0, 2);
        for (int what = 0; what < 4; what++) {
            int asked = what;
            Edges.bad("node", 0, 2, n -> x.checkpoint(n, asked));
            Due.same("of node 0", x.checkpoint(0, what), 0);
            Due.same("of node 2", x.checkpoint(2, what), 0);
        }
    }

    /** "or for any other number" */
    private static void checkpointOfAnyOtherNumber() {
        FinalityTree x = withFinal();
        giveAll(x, 2, 1, 2, 3, 4);
        checkpoints("all differ but two", x, 2, 2, 3, 1, 1);
        Edges.bad("what", 0, 3, what -> x.checkpoint(2, what));
    }

    /**
     * Two chains of three validators in epochs of 2 slots: 1, 3, 4, 6 with block 1 of epoch 1 final in
     * block 6, and 2, 5, 7, 8 with block 2 of epoch 1 final in block 8.
     */
    private static FinalityTree withTwoFinals() {
        FinalityTree x = new FinalityTree(3, 0, 2);
        x.propose(0, 2);
        x.propose(0, 2);
        Due.same("justifies block 1", justify(x, 1, 2), 3);
        x.propose(3, 4);
        Due.same("justifies block 2", justify(x, 2, 2), 5);
        Due.same("makes block 1 final", justify(x, 4, 4), 6);
        x.propose(5, 4);
        Due.same("makes block 2 final", justify(x, 7, 4), 8);
        Due.same("final epoch of 6", x.block(6, 6), 1);
        Due.same("final block of 6", x.block(6, 7), 1);
        Due.same("final epoch of 8", x.block(8, 6), 1);
        Due.same("final block of 8", x.block(8, 7), 2);
        return x;
    }

    /** "if the block's state has a final checkpoint of a greater epoch": that of the same epoch is none */
    private static void finalOfTheSameEpoch() {
        FinalityTree x = new FinalityTree(3, 0, 2);
        x.propose(0, 3);
        Due.same("justifies block 0 for epoch 1", justify(x, 1, 3), 2);
        Due.same("makes it final", justify(x, 2, 4), 3);
        x.propose(0, 2);
        Due.same("justifies block 4 for epoch 1", justify(x, 4, 2), 5);
        x.propose(5, 4);
        Due.same("makes it final", justify(x, 6, 4), 7);
        giveAll(x, 0, 1, 2, 3);
        checkpoints("epoch 1 and block 0", x, 0, 2, 2, 1, 0);
        giveAll(x, 0, 4, 5, 6, 7);
        Due.same("another final block of epoch 1", x.block(7, 7), 4);
        checkpoints("nothing changes", x, 0, 2, 2, 1, 0);
        knowsJust(x, 0, 0, 1, 2, 3, 4, 5, 6, 7);
        giveAll(x, 1, 4, 5, 6, 7);
        checkpoints("another node", x, 1, 2, 6, 1, 4);
        knowsJust(x, 1, 4, 5, 6, 7);
        Due.no("block 1 can't be given any more", x.give(1, 1));
    }

    private static void finalOfAGreaterEpoch() {
        FinalityTree x = withFinal();
        x.propose(4, 6);
        Due.same("justifies epoch 3", justify(x, 6, 6), 7);
        giveAll(x, 0, 1, 2, 3);
        checkpoints("final epoch 0", x, 0, 1, 1, 0, 0);
        knowsJust(x, 0, 0, 1, 2, 3);
        giveAll(x, 0, 4);
        checkpoints("final epoch 1", x, 0, 2, 3, 1, 1);
        knowsJust(x, 0, 1, 2, 3, 4);
        giveAll(x, 0, 6);
        checkpoints("final epoch 1 again", x, 0, 2, 3, 1, 1);
        giveAll(x, 0, 7);
        checkpoints("final epoch 2", x, 0, 3, 6, 2, 3);
        knowsJust(x, 0, 3, 4, 6, 7);
    }

    private static void finalAmongSixtyBlocks() {
        FinalityTree x = Edges.chainOf(57, 2);
        Due.same("justifies epoch 28 by block 56", justify(x, 56, 56), 57);
        x.propose(57, 58);
        Due.same("makes it final in the last block", justify(x, 58, 58), 59);
        for (int b = 1; b < 59; b++) {
            x.give(0, b);
        }
        checkpoints("before the last block", x, 0, 28, 56, 0, 0);
        giveAll(x, 0, 59);
        checkpoints("with the last block", x, 0, 29, 58, 28, 56);
        knowsJust(x, 0, 56, 57, 58, 59);
        Due.same("head", x.head(0), 59);
    }

    /** "otherwise only if it has a greater epoch": that of the same epoch is none */
    private static void justifiedOfTheSameEpoch() {
        FinalityTree x = withTwoFinals();
        giveAll(x, 0, 1, 2, 3);
        checkpoints("block 1", x, 0, 1, 1, 0, 0);
        giveAll(x, 0, 5);
        checkpoints("block 2 comes later", x, 0, 1, 1, 0, 0);
        giveAll(x, 1, 1, 2, 5);
        checkpoints("block 2", x, 1, 1, 2, 0, 0);
        giveAll(x, 1, 3);
        checkpoints("block 1 comes later", x, 1, 1, 2, 0, 0);
    }

    /** A greater justified epoch alone leaves the blocks beside it known. */
    private static void justifiedOfAGreaterEpoch() {
        FinalityTree x = new FinalityTree(3, 0, 2);
        x.propose(0, 2);
        x.propose(0, 2);
        Due.same("justifies epoch 1 by block 1", justify(x, 1, 2), 3);
        Due.same("justifies epoch 2 by block 2", justify(x, 2, 4), 4);
        giveAll(x, 0, 1, 2, 3);
        checkpoints("epoch 1", x, 0, 1, 1, 0, 0);
        giveAll(x, 0, 4);
        checkpoints("epoch 2", x, 0, 2, 2, 0, 0);
        knowsJust(x, 0, 0, 1, 2, 3, 4);
        giveAll(x, 1, 2, 4, 1, 3);
        checkpoints("epoch 1 comes later", x, 1, 2, 2, 0, 0);
    }

    /** Behind withFinal: block 6 of slot 6 behind block 1, and 7, which justifies epoch 3 by block 6. */
    private static FinalityTree withHigherJustified(int parent) {
        FinalityTree x = withFinal();
        x.propose(parent, 6);
        Due.same("justifies epoch 3", justify(x, 6, 6), 7);
        Due.same("its epoch", x.block(7, 4), 3);
        Due.same("its block", x.block(7, 5), 6);
        Due.same("nothing final", x.block(7, 6), 0);
        giveAll(x, 0, parent, 6, 7);
        checkpoints("epoch 3", x, 0, 3, 6, 0, 0);
        return x;
    }

    /** "if its justified block is none that it knows, or .. a greater epoch": neither, so it stays */
    private static void justifiedThatIsKnownStays() {
        FinalityTree x = withHigherJustified(1);
        giveAll(x, 0, 2, 3, 4);
        checkpoints("block 6 descends from block 1", x, 0, 3, 6, 1, 1);
        knowsJust(x, 0, 1, 2, 3, 4, 6, 7);
        Due.same("head", x.head(0), 7);
    }

    /** "if its justified block is none that it knows .. the state's becomes its justified one" */
    private static void justifiedThatIsForgottenGoes() {
        FinalityTree x = withHigherJustified(5);
        giveAll(x, 0, 1, 2, 3);
        checkpoints("epoch 3 still", x, 0, 3, 6, 0, 0);
        giveAll(x, 0, 4);
        checkpoints("block 6 is forgotten, so epoch 2 it is", x, 0, 2, 3, 1, 1);
        knowsJust(x, 0, 1, 2, 3, 4);
        Due.same("head", x.head(0), 4);
    }
}
