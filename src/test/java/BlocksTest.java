/** Promises 6 to 10: propose, block, balance, punished and counted. */
public final class BlocksTest {
    public static void main(String[] args) {
        proposeTellsParentSlotProposer();
        proposeWrong();
        proposeFull();
        epochsCostTheUncounted();
        balanceDoesNotFallBelowNothing();
        voteSlots();
        voteSource();
        voteTarget();
        voteCountedOnce();
        countedEpochsMove();
        twoThirdsExactly();
        onlyOneEpochIsSummed();
        finalOnlyOneEpochOn();
        justifyingForgetsBothEpochs();
        evidence();
        evidenceAgainstTheProposer();
        punishedMayVoteAndBeCounted();
        spoiledBlockChangesNothing();
        wrongQuestions();
        Due.end();
    }

    private static void state(FinalityTree x, int b, int... want) {
        for (int what = 4; what < 8; what++) {
            Due.same("block(" + b + ", " + what + ")", x.block(b, what), want[what - 4]);
        }
    }

    private static void balances(FinalityTree x, int b, int... want) {
        for (int v = 0; v < want.length; v++) {
            Due.same("balance(" + b + ", " + v + ")", x.balance(b, v), want[v]);
        }
    }

    private static void proposeTellsParentSlotProposer() {
        FinalityTree x = new FinalityTree(5, 0, 4);
        Due.same("block 0 has no parent", x.block(0, 0), -1);
        Due.same("slot of block 0", x.block(0, 1), 0);
        Due.same("proposer of block 0", x.block(0, 2), 0);
        Due.same("items of block 0", x.block(0, 3), 0);
        state(x, 0, 0, 0, 0, 0);
        Due.same("the first slot", x.propose(0, 1), 1);
        Due.same("a slot twice", x.propose(0, 1), 2);
        Due.same("behind the second", x.propose(2, 13), 3);
        Due.same("the last slot", x.propose(3, 240), 4);
        Due.same("parent", x.block(1, 0), 0);
        Due.same("parent", x.block(3, 0), 2);
        Due.same("parent", x.block(4, 0), 3);
        Due.same("slot", x.block(3, 1), 13);
        Due.same("proposer", x.block(3, 2), 3);
        Due.same("proposer", x.block(4, 2), 0);
        Due.same("items", x.block(4, 3), 0);
        state(x, 4, 0, 0, 0, 0);
    }

    private static void proposeWrong() {
        FinalityTree x = new FinalityTree(3, 0, 2);
        Due.same("parent -1", x.propose(-1, 4), -1);
        Due.same("parent that is not made", x.propose(1, 4), -1);
        Due.same("slot 0", x.propose(0, 0), -1);
        Due.same("slot -1", x.propose(0, -1), -1);
        Due.same("slot 241", x.propose(0, 241), -1);
        Due.same("greatest slot", x.propose(0, Integer.MAX_VALUE), -1);
        Due.same("block 1", x.propose(0, 4), 1);
        Due.same("the parent's slot", x.propose(1, 4), -3);
        Due.same("below the parent's slot", x.propose(1, 3), -3);
        Due.same("above the parent's slot", x.propose(1, 5), 2);
    }

    private static void proposeFull() {
        FinalityTree x = new FinalityTree(3, 0, 2);
        for (int b = 1; b < 60; b++) {
            Due.same("block " + b, x.propose(b - 1, 2 * b), b);
        }
        Due.same("block 60", x.propose(59, 119), -2);
        Due.same("REFUSED before FULL", x.propose(59, 118), -3);
        Due.same("BAD before FULL", x.propose(60, 119), -1);
        x.vote(0, 0, 200);
        x.include(0);
        Due.same("FULL before a wrong item", x.propose(59, 119), -2);
        Due.same("the item stays", x.clear(), 1);
        Due.same("block 59 is there", x.block(59, 0), 58);
        Due.same("block 60 is not", x.block(60, 0), -1);
        Due.yes("a node can go to the last", giveAll(x, 0, 59));
        Due.same("the head is the last", x.head(0), 59);
        x.vote(1, 59, 118);
        Due.same("target on a long chain", x.ballot(1, 6), 59);
    }

    private static boolean giveAll(FinalityTree x, int n, int last) {
        boolean all = true;
        for (int b = 1; b <= last; b++) {
            all &= x.give(n, b);
        }
        return all;
    }

    private static void epochsCostTheUncounted() {
        FinalityTree x = new FinalityTree(4, 0, 3);
        x.propose(0, 2);
        balances(x, 1, 32, 32, 32, 32);
        x.propose(1, 3);
        balances(x, 2, 31, 31, 31, 31);
        x.vote(1, 2, 4);
        x.include(0);
        Due.same("counts validator 1, proposer 1", x.propose(2, 5), 3);
        balances(x, 3, 31, 34, 31, 31);
        Due.same("the next epoch", x.propose(3, 6), 4);
        balances(x, 4, 30, 34, 30, 30);
        Due.same("epochs 2 and 3 are skipped", x.propose(3, 12), 5);
        balances(x, 5, 28, 32, 28, 28);
        Due.same("weight counted before", x.counted(4, 1), 1);
        Due.same("forgotten by then", x.counted(5, 1), 0);
        Due.same("nobody in the skipped one", x.counted(5, 3), 0);
        balances(x, 3, 31, 34, 31, 31);
    }

    private static void balanceDoesNotFallBelowNothing() {
        FinalityTree x = new FinalityTree(3, 0, 2);
        x.propose(0, 62);
        balances(x, 1, 1, 1, 1);
        x.propose(0, 64);
        balances(x, 2, 0, 0, 0);
        x.propose(0, 240);
        balances(x, 3, 0, 0, 0);
        x.propose(2, 240);
        balances(x, 4, 0, 0, 0);
    }

    /** A block of this slot with a vote of that slot on a chain whose only other block has slot 4. */
    private static int proposeWithVoteOf(int voteSlot, int slot) {
        FinalityTree x = new FinalityTree(3, 0, 4);
        x.propose(0, 4);
        x.vote(2, 1, voteSlot);
        x.include(0);
        return x.propose(1, slot);
    }

    private static void voteSlots() {
        Due.same("the vote is of the block's slot", proposeWithVoteOf(6, 6), -10);
        Due.same("the vote is one slot below", proposeWithVoteOf(6, 7), 2);
        Due.same("the vote is above", proposeWithVoteOf(7, 6), -10);
        Due.same("the vote is length below", proposeWithVoteOf(6, 10), 2);
        Due.same("the vote is more than length below", proposeWithVoteOf(6, 11), -10);
        Due.same("of the epoch before", proposeWithVoteOf(7, 8), 2);
        Due.same("an epoch with no block of its own", proposeWithVoteOf(9, 10), 2);
    }

    private static void voteSource() {
        FinalityTree x = new FinalityTree(3, 0, 2);
        x.propose(0, 2);
        x.vote(0, 1, 2);
        x.vote(1, 1, 2);
        x.vote(2, 1, 3);
        x.vote(2, 1, 4);
        x.include(0);
        x.include(1);
        x.include(2);
        Due.same("justified before the third", x.propose(1, 4), -12);
        x.clear();
        x.include(0);
        x.include(2);
        Due.same("the source as it was", x.propose(1, 4), 2);
        state(x, 2, 1, 1, 0, 0);
        x.include(3);
        Due.same("a source of before", x.propose(2, 5), -10);
        x.clear();
        x.vote(2, 2, 4);
        x.include(4);
        Due.same("the new source", x.propose(2, 5), 3);
    }

    /** Sources of one epoch, but of two blocks. */
    private static void sourceBlockMatters() {
        FinalityTree x = new FinalityTree(3, 0, 2);
        x.propose(0, 2);
        x.vote(0, 1, 2);
        x.vote(1, 1, 2);
        x.include(0);
        x.include(1);
        Due.same("justifies block 1", x.propose(1, 3), 2);
        x.vote(0, 0, 2);
        x.vote(1, 0, 2);
        x.include(2);
        x.include(3);
        Due.same("justifies block 0 of epoch 1", x.propose(0, 3), 3);
        state(x, 2, 1, 1, 0, 0);
        state(x, 3, 1, 0, 0, 0);
        x.vote(2, 2, 4);
        x.include(4);
        Due.same("another chain's source", x.propose(3, 5), -10);
        Due.same("its own chain's", x.propose(2, 5), 4);
    }

    private static void voteTarget() {
        sourceBlockMatters();
        FinalityTree x = new FinalityTree(3, 0, 2);
        x.propose(0, 2);
        x.propose(0, 3);
        x.propose(1, 3);
        x.vote(0, 1, 3);
        x.vote(1, 2, 3);
        x.vote(2, 3, 4);
        x.include(0);
        Due.same("target of another chain", x.propose(2, 4), -10);
        Due.same("target of this chain, head of it", x.propose(1, 4), 4);
        x.include(0);
        Due.same("head below the parent", x.propose(3, 4), 5);
        x.include(1);
        Due.same("a target that lies behind", x.propose(3, 5), -10);
        Due.same("a head in another chain, target block 0", x.propose(0, 4), 6);
        x.include(2);
        Due.same("the parent is the target", x.propose(3, 5), 7);
        x.include(2);
        Due.same("its parent would have been", x.propose(1, 5), -10);
        Due.same("another block of the epoch's first slot", x.propose(4, 5), -10);
    }

    private static void voteCountedOnce() {
        FinalityTree x = new FinalityTree(4, 0, 3);
        x.propose(0, 3);
        x.vote(0, 1, 3);
        x.vote(0, 1, 4);
        x.vote(0, 1, 6);
        x.include(0);
        x.include(0);
        Due.same("twice in a block", x.propose(1, 5), -11);
        x.clear();
        x.include(0);
        x.include(1);
        Due.same("another vote for the epoch", x.propose(1, 5), -11);
        x.clear();
        x.include(0);
        Due.same("once", x.propose(1, 5), 2);
        x.include(1);
        Due.same("again in the next block", x.propose(2, 6), -10);
        x.clear();
        x.include(2);
        Due.same("not of block 2's chain's epoch 2", x.propose(2, 7), -10);
        Due.same("the next epoch is another", x.propose(1, 7), 3);
    }

    private static void countedEpochsMove() {
        FinalityTree x = new FinalityTree(4, 0x3120, 2);
        x.propose(0, 2);
        x.vote(0, 1, 3);
        x.vote(1, 1, 3);
        x.vote(2, 1, 4);
        x.include(0);
        Due.same("weight 1 for epoch 1", x.propose(1, 4), 2);
        Due.same("counted(2, 1)", x.counted(2, 1), 1);
        Due.same("counted(2, 2)", x.counted(2, 2), 0);
        x.include(1);
        Due.same("weight 3 more for epoch 1", x.propose(2, 5), 3);
        Due.same("counted(3, 1)", x.counted(3, 1), 4);
        x.vote(2, 2, 4);
        x.include(3);
        Due.same("weight 2 for epoch 2", x.propose(2, 5), 4);
        Due.same("counted(4, 1)", x.counted(4, 1), 1);
        Due.same("counted(4, 2)", x.counted(4, 2), 2);
        Due.same("counted(4, 3)", x.counted(4, 3), 0);
        Due.same("counted(4, 0)", x.counted(4, 0), 0);
        Due.same("counted(4, -1)", x.counted(4, -1), 0);
        Due.same("counted of the least epoch", x.counted(4, Integer.MIN_VALUE), 0);
        Due.same("counted of the greatest epoch", x.counted(4, Integer.MAX_VALUE), 0);
        Due.same("an epoch on", x.propose(4, 6), 5);
        Due.same("counted(5, 1)", x.counted(5, 1), 0);
        Due.same("counted(5, 2)", x.counted(5, 2), 2);
        // Epoch 1 is not paid for again, and for epoch 2 only validator 2 was counted.
        balances(x, 4, 33, 31, 32, 30);
        balances(x, 5, 32, 30, 32, 29);
    }

    private static void twoThirdsExactly() {
        // Weights 1, 3, 2 and 3: two thirds of 9 are 6.
        FinalityTree x = new FinalityTree(4, 0x2120, 2);
        x.propose(0, 2);
        x.vote(0, 1, 2);
        x.vote(1, 1, 2);
        x.vote(2, 1, 2);
        x.vote(3, 1, 2);
        x.include(1);
        x.include(2);
        Due.same("weight 5", x.propose(1, 3), 2);
        Due.same("counted", x.counted(2, 1), 5);
        state(x, 2, 0, 0, 0, 0);
        x.include(1);
        x.include(3);
        Due.same("weight 6", x.propose(1, 3), 3);
        Due.same("counted no more", x.counted(3, 1), 0);
        state(x, 3, 1, 1, 0, 0);
        x.include(0);
        Due.same("weight 6 by a later block", x.propose(2, 4), 4);
        state(x, 4, 1, 1, 0, 0);
        // Weights 2, 1 and 1: 2.67 are needed.
        FinalityTree y = new FinalityTree(3, 1, 2);
        y.vote(0, 0, 2);
        y.vote(1, 0, 2);
        y.vote(2, 0, 2);
        y.include(1);
        y.include(2);
        y.propose(0, 3);
        Due.same("2 of 4 are too few", y.block(1, 4), 0);
        y.include(0);
        y.include(1);
        y.propose(0, 3);
        Due.same("3 of 4 are enough", y.block(2, 4), 1);
    }

    private static void onlyOneEpochIsSummed() {
        FinalityTree x = new FinalityTree(3, 0, 2);
        x.vote(0, 0, 3);
        x.vote(1, 0, 4);
        x.include(0);
        x.include(1);
        Due.same("one vote for each of two epochs", x.propose(0, 5), 1);
        state(x, 1, 0, 0, 0, 0);
        Due.same("counted(1, 1)", x.counted(1, 1), 1);
        Due.same("counted(1, 2)", x.counted(1, 2), 1);
    }

    private static void finalOnlyOneEpochOn() {
        FinalityTree x = new FinalityTree(3, 0, 2);
        x.vote(0, 0, 4);
        x.vote(1, 0, 4);
        x.include(0);
        x.include(1);
        Due.same("epoch 0 to 2", x.propose(0, 5), 1);
        state(x, 1, 2, 0, 0, 0);
        x.vote(0, 1, 6);
        x.vote(2, 1, 6);
        x.include(2);
        x.include(3);
        Due.same("epoch 2 to 3", x.propose(1, 7), 2);
        state(x, 2, 3, 1, 2, 0);
        x.vote(0, 2, 10);
        x.vote(2, 2, 10);
        x.include(4);
        x.include(5);
        Due.same("epoch 3 to 5", x.propose(2, 11), 3);
        state(x, 3, 5, 2, 2, 0);
    }

    private static void justifyingForgetsBothEpochs() {
        FinalityTree x = new FinalityTree(3, 0, 2);
        x.propose(0, 2);
        x.propose(1, 4);
        x.vote(0, 2, 4);
        x.vote(1, 1, 3);
        x.vote(2, 1, 3);
        x.include(0);
        x.include(1);
        x.include(2);
        Due.same("epoch 1 is justified in epoch 2", x.propose(2, 5), 3);
        state(x, 3, 1, 1, 0, 0);
        Due.same("counted(3, 1)", x.counted(3, 1), 0);
        Due.same("counted(3, 2)", x.counted(3, 2), 0);
        // Twice 1 lost; 2 for each vote; 3 times 1 for proposer 2.
        balances(x, 3, 32, 32, 35);
        x.vote(0, 3, 5);
        x.include(3);
        Due.same("0 is counted for epoch 2 again", x.propose(3, 6), 4);
        // All lose 1 with epoch 2, for nobody is counted when it ends; 0 gets 3 as it is the proposer.
        balances(x, 4, 34, 31, 34);
        Due.same("counted(4, 2)", x.counted(4, 2), 1);
        Due.same("epoch 3 ends", x.propose(4, 8), 5);
        balances(x, 5, 33, 30, 33);
    }

    private static FinalityTree withClashes() {
        FinalityTree x = new FinalityTree(4, 0, 5);
        x.propose(0, 1);
        x.vote(0, 1, 5);
        x.vote(0, 1, 6);
        x.vote(1, 1, 5);
        x.vote(1, 1, 6);
        x.vote(2, 1, 5);
        x.vote(2, 1, 6);
        return x;
    }

    private static void evidence() {
        FinalityTree x = withClashes();
        x.accuse(0, 1);
        x.accuse(3, 2);
        x.include(4);
        Due.same("two are punished", x.propose(1, 7), 2);
        Due.same("three items", x.block(2, 3), 3);
        Due.yes("punished(2, 0)", x.punished(2, 0));
        Due.yes("punished(2, 1)", x.punished(2, 1));
        Due.no("punished(2, 2)", x.punished(2, 2));
        Due.no("punished(1, 0)", x.punished(1, 0));
        // 31 is halved to 15; proposer 3 has 31 + 5 + 5 + 1.
        balances(x, 2, 15, 15, 33, 42);
        x.accuse(0, 1);
        Due.same("punished already", x.propose(2, 10), -10);
        Due.same("not on another chain", x.propose(1, 10), 3);
        Due.same("slot 8 is validator 0's", x.propose(2, 8), -3);
        Due.same("slot 9 is validator 1's", x.propose(2, 9), -3);
        Due.same("0 may go on elsewhere", x.propose(1, 8), 4);
        Due.same("2 may go on here", x.propose(2, 10), 5);
        Due.yes("punished for ever", x.punished(5, 0));
        x.accuse(4, 5);
        x.accuse(4, 5);
        Due.same("twice in a block", x.propose(2, 11), -11);
        Due.same("two items", x.clear(), 2);
    }

    private static void evidenceAgainstTheProposer() {
        FinalityTree x = withClashes();
        x.accuse(4, 5);
        x.include(0);
        Due.same("against itself", x.propose(1, 10), 2);
        // 32 - 2 = 30, half is 15, then 5 for the evidence and 1 for the vote.
        balances(x, 2, 32, 30, 21, 30);
        Due.same("proposer", x.block(2, 2), 2);
        Due.same("after that it can't", x.propose(2, 14), -3);
    }

    private static void punishedMayVoteAndBeCounted() {
        FinalityTree x = withClashes();
        x.accuse(0, 1);
        x.include(0);
        x.include(2);
        x.include(4);
        Due.same("its vote and its weight count", x.propose(1, 7), 2);
        state(x, 2, 1, 1, 0, 0);
        balances(x, 2, 17, 33, 33, 39);
        Due.same("the punished lose too", x.propose(2, 11), 3);
        balances(x, 3, 16, 32, 32, 38);
    }

    private static void spoiledBlockChangesNothing() {
        FinalityTree x = withClashes();
        x.include(0);
        x.accuse(2, 3);
        x.include(1);
        Due.same("the third spoils it", x.propose(1, 7), -12);
        Due.same("there is no block 2", x.block(2, 1), -1);
        balances(x, 1, 32, 32, 32, 32);
        Due.no("punished(1, 1)", x.punished(1, 1));
        Due.same("counted(1, 1)", x.counted(1, 1), 0);
        Due.same("the items stay", x.include(4), 4);
        Due.same("and spoil it again", x.propose(1, 7), -12);
        Due.same("four items", x.clear(), 4);
        x.include(0);
        Due.same("then it is block 2", x.propose(1, 7), 2);
        balances(x, 2, 33, 31, 31, 32);
    }

    private static void wrongQuestions() {
        FinalityTree x = withClashes();
        Due.same("block(2, 1)", x.block(2, 1), -1);
        Due.same("block(-1, 1)", x.block(-1, 1), -1);
        Due.same("block(60, 1)", x.block(60, 1), -1);
        Due.same("block(1, -1)", x.block(1, -1), -1);
        Due.same("block(1, 8)", x.block(1, 8), -1);
        Due.same("balance(2, 0)", x.balance(2, 0), -1);
        Due.same("balance(-1, 0)", x.balance(-1, 0), -1);
        Due.same("balance(0, 4)", x.balance(0, 4), -1);
        Due.same("balance(0, -1)", x.balance(0, -1), -1);
        x.accuse(0, 1);
        x.propose(1, 7);
        Due.no("punished(3, 0)", x.punished(3, 0));
        Due.no("punished(-1, 0)", x.punished(-1, 0));
        Due.no("punished(2, 4)", x.punished(2, 4));
        Due.no("punished(2, -1)", x.punished(2, -1));
        Due.no("punished(2, 32)", x.punished(2, 32));
        Due.same("counted(3, 0)", x.counted(3, 0), -1);
        Due.same("counted(-1, 0)", x.counted(-1, 0), -1);
    }
}
