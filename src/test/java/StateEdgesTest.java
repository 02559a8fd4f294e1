/** The boundary cases of the terms' paragraph on states: one test for each sentence. */
public final class StateEdgesTest {
    public static void main(String[] args) {
        epochsEndWithTheirLastSlot();
        skippedEpochsCostEverybody();
        balanceStopsAtNothing();
        countedLosesNothing();
        countedTooLateLosesAllTheSame();
        voteOfTheBlocksSlot();
        voteMoreThanLengthBelow();
        voteOfAnotherSource();
        voteOfAnotherTarget();
        voteForTheFirstSlotOfTheEpoch();
        voteIsCountedOncePerEpoch();
        voterAndProposerAreRewarded();
        twoThirdsOrOneLess();
        twoThirdsOfOneEpochAlone();
        finalIfTheEpochBefore();
        nobodyIsCountedBehindAJustification();
        evidenceHalvesRoundedDown();
        evidenceAgainstTheProposerHalvesFirst();
        evidenceAgainstThePunished();
        Due.end();
    }

    private static void balances(String named, FinalityTree x, int b, int... want) {
        for (int v = 0; v < want.length; v++) {
            Due.same(named + ": balance(" + b + ", " + v + ")", x.balance(b, v), want[v]);
        }
    }

    private static void checkpoints(String named, FinalityTree x, int b, int... want) {
        for (int what = 4; what < 8; what++) {
            Due.same(named + ": block(" + b + ", " + what + ")", x.block(b, what), want[what - 4]);
        }
    }

    /** "for each epoch from the parent's to that before the block's" */
    private static void epochsEndWithTheirLastSlot() {
        for (int length = 2; length <= 5; length++) {
            FinalityTree x = new FinalityTree(3, 0, length);
            x.propose(0, length - 1);
            balances("the last slot of epoch 0", x, 1, 32, 32, 32);
            x.propose(1, length);
            balances("the first slot of epoch 1", x, 2, 31, 31, 31);
            x.propose(2, 2 * length - 1);
            balances("the last slot of epoch 1", x, 3, 31, 31, 31);
            x.propose(2, 2 * length);
            balances("the first slot of epoch 2", x, 4, 30, 30, 30);
            x.propose(3, 2 * length);
            balances("and behind the last slot of epoch 1", x, 5, 30, 30, 30);
        }
    }

    /** "(for the epochs skipped: everybody)" */
    private static void skippedEpochsCostEverybody() {
        FinalityTree x = new FinalityTree(4, 0, 2);
        x.include(x.vote(3, 0, 2));
        Due.same("validator 3 is counted for epoch 1", x.propose(0, 3), 1);
        balances("epoch 1", x, 1, 31, 31, 31, 34);
        x.propose(1, 4);
        balances("epoch 2", x, 2, 30, 30, 30, 34);
        x.propose(1, 6);
        balances("epoch 3", x, 3, 29, 29, 29, 33);
        x.propose(1, 9);
        balances("epoch 4", x, 4, 28, 28, 28, 32);
    }

    /** "loses 1 of its balance if it has any" */
    private static void balanceStopsAtNothing() {
        FinalityTree x = new FinalityTree(3, 0, 5);
        x.propose(0, 155);
        balances("31 epochs", x, 1, 1, 1, 1);
        x.propose(1, 160);
        balances("32 epochs", x, 2, 0, 0, 0);
        x.propose(2, 165);
        balances("33 epochs", x, 3, 0, 0, 0);
        x.propose(0, 240);
        balances("48 epochs at once", x, 4, 0, 0, 0);
        FinalityTree y = new FinalityTree(3, 0, 2);
        y.propose(0, 240);
        balances("120 epochs at once", y, 1, 0, 0, 0);
        y.include(y.vote(1, 0, 239));
        Due.same("rewards on nothing", y.propose(0, 240), 2);
        balances("2 for the vote, 1 for the proposer", y, 2, 1, 2, 0);
    }

    private static void countedLosesNothing() {
        FinalityTree x = new FinalityTree(4, 0, 2);
        x.include(x.vote(0, 0, 2));
        x.include(x.vote(1, 0, 2));
        x.propose(0, 3);
        Due.same("counted", x.counted(1, 1), 2);
        balances("epoch 1", x, 1, 33, 33, 31, 33);
        x.propose(1, 5);
        balances("epoch 2", x, 2, 33, 33, 30, 32);
    }

    /** A vote of an epoch may be counted by a block of the next; the loss was before the items. */
    private static void countedTooLateLosesAllTheSame() {
        FinalityTree x = new FinalityTree(4, 0, 2);
        x.propose(0, 2);
        x.include(x.vote(0, 1, 3));
        Due.same("counts for the epoch before", x.propose(1, 5), 2);
        Due.same("epoch 1", x.counted(2, 1), 1);
        Due.same("epoch 2", x.counted(2, 2), 0);
        balances("lost 1, got 2", x, 2, 32, 31, 30, 30);
        x.propose(2, 6);
        balances("and is not counted for epoch 2", x, 3, 31, 30, 29, 29);
    }

    /** A block of this slot behind block 0, with a vote for block 0 of that slot. */
    private static int takes(int length, int voteSlot, int slot) {
        FinalityTree x = new FinalityTree(3, 0, length);
        x.include(x.vote(1, 0, voteSlot));
        return x.propose(0, slot);
    }

    /** "a slot below the block's" */
    private static void voteOfTheBlocksSlot() {
        for (int length = 2; length <= 5; length++) {
            for (int slot : new int[] {3 * length - 1, 3 * length, 3 * length + 1, 240}) {
                Due.same("one below " + slot, takes(length, slot - 1, slot), 1);
                Due.same("at " + slot, takes(length, slot, slot), -10);
            }
            Due.same("one above", takes(length, 3 * length + 1, 3 * length), -10);
            Due.same("far above", takes(length, 240, length), -10);
        }
    }

    /** "and not more than length below it" */
    private static void voteMoreThanLengthBelow() {
        for (int length = 2; length <= 5; length++) {
            for (int slot : new int[] {3 * length - 1, 3 * length, 3 * length + 1, 240}) {
                Due.same("length below " + slot, takes(length, slot - length, slot), 1);
                Due.same("length and one below " + slot, takes(length, slot - length - 1, slot), -10);
            }
            Due.same("far below", takes(length, length, 240), -10);
        }
    }

    /**
     * Three validators and epochs of 2 slots. Blocks 1 of slot 2 and 2 of slot 3, which justifies epoch 1
     * with block 1; block 3 of slot 3 behind block 0, which justifies epoch 1 with block 0.
     */
    private static FinalityTree withTwoSources() {
        FinalityTree x = new FinalityTree(3, 0, 2);
        x.propose(0, 2);
        x.include(x.vote(0, 1, 2));
        x.include(x.vote(1, 1, 2));
        x.propose(1, 3);
        x.include(x.vote(0, 0, 2));
        x.include(x.vote(1, 0, 2));
        x.propose(0, 3);
        checkpoints("by block 1", x, 2, 1, 1, 0, 0);
        checkpoints("by block 0", x, 3, 1, 0, 0, 0);
        return x;
    }

    /** "must have the state's justified checkpoint as source": its epoch and its block */
    private static void voteOfAnotherSource() {
        FinalityTree x = withTwoSources();
        int lower = x.vote(2, 1, 4);
        Due.same("source epoch 0", x.ballot(lower, 3), 0);
        x.include(lower);
        Due.same("a source of a lower epoch", x.propose(2, 5), -10);
        Due.same("is the parent's source", x.propose(1, 5), 4);
        int higher = x.vote(2, 2, 4);
        Due.same("source epoch 1", x.ballot(higher, 3), 1);
        x.include(higher);
        Due.same("a source of a higher epoch", x.propose(1, 5), -10);
        Due.same("is that behind block 2", x.propose(2, 5), 5);
        // Sources of one epoch and two blocks are on two chains, whose targets then are two blocks as well.
        int beside = x.vote(2, 3, 4);
        Due.same("source epoch", x.ballot(beside, 3), 1);
        Due.same("source block", x.ballot(beside, 4), 0);
        x.include(beside);
        Due.same("a source of another block", x.propose(2, 5), -10);
        Due.same("is that behind block 3", x.propose(3, 5), 6);
    }

    /** "the chain's checkpoint of its slot's epoch as target": its block, the epoch being that of the slot */
    private static void voteOfAnotherTarget() {
        FinalityTree x = new FinalityTree(3, 0, 2);
        x.propose(0, 2);
        x.propose(0, 2);
        x.propose(1, 3);
        x.include(x.vote(2, 1, 3));
        Due.same("block 1 is not of this chain", x.propose(2, 4), -10);
        Due.same("nor block 0's", x.propose(0, 4), -10);
        Due.same("block 1 is that of its own", x.propose(1, 4), 4);
        x.include(x.vote(2, 1, 3));
        Due.same("and behind a later block", x.propose(3, 4), 5);
        x.include(x.vote(2, 0, 3));
        Due.same("block 0 is below block 1", x.propose(1, 4), -10);
        Due.same("and is the one behind block 0", x.propose(0, 4), 6);
    }

    /** "(the chain of the new block)": a parent of the epoch's first slot is the target, a later one not */
    private static void voteForTheFirstSlotOfTheEpoch() {
        for (int length = 3; length <= 5; length++) {
            FinalityTree x = new FinalityTree(3, 0, length);
            x.propose(0, length);
            x.propose(0, length + 1);
            x.include(x.vote(1, 0, length));
            Due.same("the parent has the first slot", x.propose(1, length + 2), -10);
            Due.same("the parent has the second slot", x.propose(2, length + 2), 3);
            x.include(x.vote(1, 0, length));
            Due.same("the block has the second slot", x.propose(0, length + 1), 4);
        }
    }

    /** "its validator must not be counted for that epoch" */
    private static void voteIsCountedOncePerEpoch() {
        FinalityTree x = new FinalityTree(4, 0, 2);
        x.include(x.vote(0, 0, 2));
        Due.same("counted", x.propose(0, 3), 1);
        x.include(x.vote(0, 0, 2));
        Due.same("the same vote in the same epoch", x.propose(1, 4), -10);
        x.clear();
        x.include(x.vote(0, 0, 3));
        Due.same("another vote of the epoch", x.propose(1, 5), -10);
        Due.same("beside the block that counted it", x.propose(0, 5), 2);
        x.include(x.vote(0, 1, 4));
        Due.same("a vote of the next epoch", x.propose(1, 5), 3);
        x.include(x.vote(1, 0, 3));
        Due.same("another validator's", x.propose(1, 5), 4);
    }

    /** "its balance grows by 2, the proposer's by 1": 3 if they are one */
    private static void voterAndProposerAreRewarded() {
        FinalityTree x = new FinalityTree(3, 0, 2);
        x.include(x.vote(0, 0, 3));
        x.propose(0, 4);
        balances("voter 0, proposer 1", x, 1, 32, 31, 30);
        x.include(x.vote(1, 0, 3));
        x.propose(0, 4);
        balances("voter 1, proposer 1", x, 2, 30, 33, 30);
    }

    /** The justified epoch of a block with votes of validators 0 to many - 1, of these weights. */
    private static int justifiedBy(int validators, int weights, int many) {
        FinalityTree x = new FinalityTree(validators, weights, 5);
        int last = 0;
        for (int v = 0; v < many; v++) {
            x.include(x.vote(v, 0, 5));
            if (v == 3) {
                last = x.propose(last, 6);
            }
        }
        last = x.propose(last, 7);
        return x.block(last, 4);
    }

    /** "at least two thirds of the total" */
    private static void twoThirdsOrOneLess() {
        Due.same("2 of 3", justifiedBy(3, 0, 2), 1);
        Due.same("1 of 3", justifiedBy(3, 0, 1), 0);
        Due.same("32 of 48", justifiedBy(3, 0xFFF, 2), 1);
        Due.same("31 of 47", justifiedBy(3, 0xFFE, 2), 0);
        Due.same("31 of 46", justifiedBy(3, 0xEFE, 2), 1);
        Due.same("2 of 4", justifiedBy(4, 0, 2), 0);
        Due.same("3 of 4", justifiedBy(4, 0, 3), 1);
        Due.same("3 of 5", justifiedBy(5, 0, 3), 0);
        Due.same("4 of 5", justifiedBy(5, 0, 4), 1);
        Due.same("3 of 6", justifiedBy(6, 0, 3), 0);
        Due.same("4 of 6", justifiedBy(6, 0, 4), 1);
        Due.same("4 of 7", justifiedBy(7, 0, 4), 0);
        Due.same("5 of 7", justifiedBy(7, 0, 5), 1);
        Due.same("64 of 112", justifiedBy(7, -1, 4), 0);
        Due.same("80 of 112", justifiedBy(7, -1, 5), 1);
        Due.same("12 of 18 by one alone", justifiedBy(3, 0x22B, 1), 1);
        Due.same("12 of 19 by one alone", justifiedBy(3, 0x23B, 1), 0);
        Due.same("11 of 17 by one alone", justifiedBy(3, 0x22A, 1), 0);
    }

    /** "of those that are counted for this epoch" */
    private static void twoThirdsOfOneEpochAlone() {
        FinalityTree x = new FinalityTree(3, 0, 2);
        x.include(x.vote(0, 0, 3));
        x.include(x.vote(1, 0, 4));
        Due.same("one for epoch 1, one for epoch 2", x.propose(0, 5), 1);
        checkpoints("not together", x, 1, 0, 0, 0, 0);
        x.include(x.vote(0, 0, 4));
        Due.same("a second one for epoch 2", x.propose(1, 6), 2);
        checkpoints("epoch 2", x, 2, 2, 0, 0, 0);
    }

    /** Epoch 1 is justified by block 1; then this epoch on the same chain. Its final epoch. */
    private static int finalBehind(int epoch) {
        FinalityTree x = new FinalityTree(3, 0, 2);
        x.include(x.vote(0, 0, 2));
        x.include(x.vote(1, 0, 2));
        x.propose(0, 3);
        checkpoints("epoch 0 to 1", x, 1, 1, 0, 0, 0);
        x.include(x.vote(0, 1, 2 * epoch));
        x.include(x.vote(2, 1, 2 * epoch));
        x.propose(1, 2 * epoch + 1);
        Due.same("justified epoch", x.block(2, 4), epoch);
        Due.same("justified block", x.block(2, 5), 1);
        Due.same("final block", x.block(2, 7), 0);
        return x.block(2, 6);
    }

    /** "if the source's epoch is the one before the target's, the final checkpoint becomes the source" */
    private static void finalIfTheEpochBefore() {
        Due.same("epoch 1 to 2", finalBehind(2), 1);
        Due.same("epoch 1 to 3", finalBehind(3), 0);
        Due.same("epoch 1 to 4", finalBehind(4), 0);
        Due.same("epoch 1 to 119", finalBehind(119), 0);
    }

    /** "nobody is counted for any epoch any more (.. who was, loses 1 with the epoch all the same ..)" */
    private static void nobodyIsCountedBehindAJustification() {
        FinalityTree x = new FinalityTree(3, 0, 2);
        x.include(x.vote(2, 0, 4));
        x.include(x.vote(0, 0, 3));
        x.include(x.vote(1, 0, 3));
        Due.same("epoch 1 is justified in epoch 2", x.propose(0, 5), 1);
        checkpoints("epoch 1", x, 1, 1, 0, 0, 0);
        Due.same("for epoch 1", x.counted(1, 1), 0);
        Due.same("for epoch 2", x.counted(1, 2), 0);
        balances("two lost, two got, and 3 for proposer 2", x, 1, 32, 32, 35);
        x.propose(1, 6);
        balances("all lose 1 with epoch 2", x, 2, 31, 31, 34);
        x.include(x.vote(2, 1, 5));
        Due.same("counted again for epoch 2", x.propose(1, 6), 3);
        Due.same("by its new vote", x.counted(3, 2), 1);
    }

    /** The balance of validator 1 in a block of this slot, with evidence against it. */
    private static int halved(int slot) {
        FinalityTree x = new FinalityTree(3, 0, 5);
        x.accuse(x.vote(1, 0, 5), x.vote(1, 0, 6));
        x.propose(0, slot);
        Due.yes("punished", x.punished(1, 1));
        Due.same("5 for the proposer", x.balance(1, slot % 3), Math.max(0, 32 - slot / 5) + 5);
        return x.balance(1, 1);
    }

    /** "its balance becomes half (rounded down), the proposer's grows by 5" */
    private static void evidenceHalvesRoundedDown() {
        Due.same("half of 32", halved(2), 16);
        Due.same("half of 31", halved(5), 15);
        Due.same("half of 30", halved(11), 15);
        Due.same("half of 3", halved(146), 1);
        Due.same("half of 2", halved(150), 1);
        Due.same("half of 1", halved(155), 0);
        Due.same("half of 0", halved(161), 0);
    }

    private static void evidenceAgainstTheProposerHalvesFirst() {
        FinalityTree x = new FinalityTree(3, 0, 2);
        x.accuse(x.vote(1, 0, 2), x.vote(1, 0, 3));
        Due.same("proposer 1", x.propose(0, 4), 1);
        balances("30 / 2 + 5", x, 1, 30, 20, 30);
        x.accuse(0, 1);
        Due.same("of nothing", x.propose(0, 64), 2);
        balances("0 / 2 + 5", x, 2, 0, 5, 0);
    }

    /** "their validator must not be punished" */
    private static void evidenceAgainstThePunished() {
        FinalityTree x = new FinalityTree(3, 0, 4);
        x.vote(1, 0, 4);
        x.vote(1, 0, 5);
        x.vote(1, 0, 6);
        x.accuse(0, 1);
        Due.same("punishes 1", x.propose(0, 6), 1);
        x.accuse(0, 1);
        Due.same("by the same votes", x.propose(1, 8), -10);
        x.clear();
        x.accuse(2, 1);
        Due.same("by others", x.propose(1, 8), -10);
        Due.same("not punished there", x.propose(0, 7), 2);
    }
}
