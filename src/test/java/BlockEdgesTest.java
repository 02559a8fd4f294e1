/** The boundary cases of promises 6 to 10, a block and what is asked of it: one test for each sentence. */
public final class BlockEdgesTest {
    public static void main(String[] args) {
        proposeBehindNoSuchParent();
        proposeInNoSuchSlot();
        proposeNotAboveTheParentsSlot();
        proposeBehindTheLastSlot();
        proposerWrapsAround();
        proposerIsPunishedInTheParentsState();
        proposerIsPunishedInTheBlockItself();
        proposerIsPunishedOnAnotherChain();
        proposeIsFullAtSixty();
        spoiledByEachItem();
        spoiledByTheFirstOfSeveral();
        spoiledByAnItemBeforeIt();
        blockTakesNoneToFourItems();
        blockOfNoSuchNumber();
        blockOfAnyOtherNumber();
        blockZeroHasNoParent();
        balanceOfNone();
        punishedOfNone();
        countedOfNoSuchBlock();
        countedForAnyOtherEpoch();
        Due.end();
    }

    /** "BAD when there is no such parent" */
    private static void proposeBehindNoSuchParent() {
        for (int blocks : new int[] {1, 2, 59}) {
            FinalityTree x = Edges.chainOf(blocks, 2);
            Edges.bad("parent", 0, blocks - 1, parent -> x.propose(parent, 240));
            Due.same("the last", x.propose(blocks - 1, 240), blocks);
            Due.same("its parent", x.block(blocks, 0), blocks - 1);
        }
        FinalityTree y = Edges.chainOf(2, 2);
        Due.same("the first", y.propose(0, 240), 2);
        Due.same("its parent", y.block(2, 0), 0);
    }

    /** "BAD when .. slot is not 1 .. 240" */
    private static void proposeInNoSuchSlot() {
        FinalityTree x = new FinalityTree(3, 0, 2);
        Edges.bad("slot", 1, 240, slot -> x.propose(0, slot));
        Due.same("slot 0, the parent's too", x.propose(0, 0), -1);
        Due.same("slot 1", x.propose(0, 1), 1);
        Due.same("slot 240", x.propose(0, 240), 2);
        Due.same("the first slot", x.block(1, 1), 1);
        Due.same("the last slot", x.block(2, 1), 240);
    }

    /** "REFUSED when its slot is not above the parent's" */
    private static void proposeNotAboveTheParentsSlot() {
        FinalityTree x = new FinalityTree(3, 0, 2);
        x.propose(0, 100);
        Due.same("slot 1", x.propose(1, 1), -3);
        Due.same("one below", x.propose(1, 99), -3);
        Due.same("the parent's", x.propose(1, 100), -3);
        Due.same("one above", x.propose(1, 101), 2);
        Due.same("the parent's slot behind another parent", x.propose(0, 100), 3);
        Due.same("below other blocks' slots", x.propose(0, 1), 4);
    }

    private static void proposeBehindTheLastSlot() {
        FinalityTree x = new FinalityTree(3, 0, 2);
        x.propose(0, 239);
        x.propose(1, 240);
        Due.same("slot 240 behind slot 240", x.propose(2, 240), -3);
        Due.same("slot 241 is none", x.propose(2, 241), -1);
        Due.same("slot 240 behind slot 239", x.propose(1, 240), 3);
    }

    /** "as PROPOSER the validator slot % validators" */
    private static void proposerWrapsAround() {
        for (int validators = 3; validators <= 7; validators++) {
            FinalityTree x = new FinalityTree(validators, 0, 2);
            Due.same("of block 0", x.block(0, 2), 0);
            int[] slots = {1, validators - 1, validators, validators + 1, 239, 240};
            int[] want = {1, validators - 1, 0, 1, 239 % validators, 240 % validators};
            for (int i = 0; i < slots.length; i++) {
                Due.same("of slot " + slots[i], x.block(x.propose(0, slots[i]), 2), want[i]);
            }
        }
    }

    /**
     * Four validators and epochs of 5 slots: block 1 of slot 1, for each validator v the votes 2 * v and
     * 2 * v + 1, which clash, and block 2 of slot 7 with evidence against validator 0.
     */
    private static FinalityTree withPunished() {
        FinalityTree x = new FinalityTree(4, 0, 5);
        x.propose(0, 1);
        for (int v = 0; v < 4; v++) {
            x.vote(v, 1, 5);
            x.vote(v, 1, 6);
        }
        x.accuse(0, 1);
        Due.same("punishes validator 0", x.propose(1, 7), 2);
        return x;
    }

    /** "A proposer that is punished in the parent's state can't propose." */
    private static void proposerIsPunishedInTheParentsState() {
        FinalityTree x = withPunished();
        Due.same("the slot of validator 0", x.propose(2, 8), -3);
        Due.same("the slot of validator 1", x.propose(2, 9), 3);
        Due.same("the next slot of validator 0", x.propose(2, 12), -3);
        Due.same("its last slot", x.propose(2, 240), -3);
        Due.same("behind a later block too", x.propose(3, 12), -3);
        Due.same("its slot below the parent's", x.propose(2, 4), -3);
    }

    /** Its parent's state has it not yet punished. */
    private static void proposerIsPunishedInTheBlockItself() {
        FinalityTree x = withPunished();
        x.accuse(6, 7);
        Due.same("the block of validator 3 punishes validator 3", x.propose(2, 11), 3);
        Due.yes("it is punished then", x.punished(3, 3));
        Due.same("and can't propose behind it", x.propose(3, 15), -3);
        Due.same("but beside it", x.propose(2, 15), 4);
    }

    private static void proposerIsPunishedOnAnotherChain() {
        FinalityTree x = withPunished();
        Due.no("not in the parent's state", x.punished(1, 0));
        Due.same("beside the block that punishes it", x.propose(1, 8), 3);
        Due.no("nor in the new one's", x.punished(3, 0));
    }

    /** "BLOCKS have numbers 0, 1, .. .., at most 60"; "then FULL" */
    private static void proposeIsFullAtSixty() {
        FinalityTree x = Edges.chainOf(59, 2);
        Due.same("58 is there", x.block(58, 1), 58);
        Due.same("59 is not yet", x.block(59, 1), -1);
        Due.same("the 60th", x.propose(58, 59), 59);
        Due.same("the 61st", x.propose(59, 60), -2);
        Due.same("and behind block 0", x.propose(0, 1), -2);
        Due.same("59 is there", x.block(59, 1), 59);
        Due.same("60 is not", x.block(60, 1), -1);
        Due.same("a vote for the last", x.vote(0, 59, 59), 0);
        Due.same("its target", x.ballot(0, 6), 58);
        for (int b = 1; b < 60; b++) {
            x.give(0, b);
        }
        Due.yes("a node may know the last", x.knows(0, 59));
        Due.same("and have it for its head", x.head(0), 59);
    }

    /** "-10 - i when item i (from 0) is the first that isn't as it must be" */
    private static void spoiledByEachItem() {
        for (int wrong = 0; wrong < 4; wrong++) {
            FinalityTree x = new FinalityTree(7, 0, 5);
            for (int v = 0; v < 4; v++) {
                x.vote(v, 0, 5);
            }
            Due.same("a vote of the block's slot", x.vote(4, 0, 7), 4);
            for (int i = 0; i < 4; i++) {
                x.include(i == wrong ? 4 : i);
            }
            Due.same("item " + wrong + " is wrong", x.propose(0, 7), -10 - wrong);
            Due.same("all are as they must be a slot on", x.propose(0, 8), 1);
            Due.same("four items", x.block(1, 3), 4);
        }
    }

    private static void spoiledByTheFirstOfSeveral() {
        FinalityTree x = new FinalityTree(7, 0, 5);
        x.vote(0, 0, 5);
        x.vote(1, 0, 8);
        x.vote(2, 0, 9);
        x.include(0);
        x.include(1);
        x.include(2);
        x.include(0);
        Due.same("items 1, 2 and 3 are wrong", x.propose(0, 8), -11);
        Due.same("items 2 and 3 are wrong", x.propose(0, 9), -12);
        Due.same("item 3 is wrong", x.propose(0, 10), -13);
        Due.same("all are wrong", x.propose(0, 30), -10);
        Due.same("they are all there still", x.clear(), 4);
    }

    /** The items are looked at one after the other, each in the state that those before it have made. */
    private static void spoiledByAnItemBeforeIt() {
        FinalityTree x = new FinalityTree(3, 0, 5);
        x.vote(0, 0, 5);
        x.vote(0, 0, 6);
        x.vote(1, 0, 5);
        x.vote(2, 0, 5);
        x.include(0);
        x.include(2);
        x.include(3);
        Due.same("the second justifies, so that the third's source is old", x.propose(0, 7), -12);
        x.clear();
        x.accuse(0, 1);
        x.accuse(1, 0);
        Due.same("the first punishes, so that the second can't", x.propose(0, 7), -11);
        x.clear();
        x.include(0);
        x.include(1);
        Due.same("the first counts, so that the second can't", x.propose(0, 7), -11);
        x.clear();
        x.include(0);
        x.accuse(0, 1);
        Due.same("evidence may name a vote that is counted", x.propose(0, 7), 1);
    }

    /** "a row of at most four ITEMS"; "3 how many items" */
    private static void blockTakesNoneToFourItems() {
        for (int many = 0; many <= 4; many++) {
            FinalityTree x = new FinalityTree(7, 0, 5);
            for (int v = 0; v < many; v++) {
                x.include(x.vote(v, 0, 5));
            }
            Due.same("a block with " + many, x.propose(0, 6), 1);
            Due.same("has so many items", x.block(1, 3), many);
            Due.same("and counts so many", x.counted(1, 1), many);
            Due.same("the next one has none", x.block(x.propose(1, 7), 3), 0);
        }
    }

    /** "BAD when there is no such block" */
    private static void blockOfNoSuchNumber() {
        for (int blocks : new int[] {1, 2, 60}) {
            FinalityTree x = Edges.chainOf(blocks, 2);
            for (int what = 0; what < 8; what++) {
                int asked = what;
                Edges.bad("block", 0, blocks - 1, b -> x.block(b, asked));
            }
            Due.same("the last", x.block(blocks - 1, 1), blocks - 1);
        }
    }

    /** "or for any other number" */
    private static void blockOfAnyOtherNumber() {
        FinalityTree x = new FinalityTree(4, 0, 2);
        x.propose(0, 1);
        x.propose(1, 2);
        for (int v = 0; v < 3; v++) {
            x.include(x.vote(v, 2, 2));
        }
        Due.same("justifies epoch 1", x.propose(2, 3), 3);
        x.propose(3, 4);
        for (int v = 0; v < 3; v++) {
            x.include(x.vote(v, 4, 4));
        }
        Due.same("makes it final", x.propose(4, 5), 5);
        int[] want = {4, 5, 1, 3, 2, 4, 1, 2};
        for (int what = 0; what < 8; what++) {
            Due.same("block(5, " + what + ")", x.block(5, what), want[what]);
        }
        Edges.bad("what", 0, 7, what -> x.block(5, what));
        Edges.bad("what of block 0", 0, 7, what -> x.block(0, what));
    }

    /** "0 its parent (BAD for block 0)"; "2 proposer (0 for block 0)" */
    private static void blockZeroHasNoParent() {
        FinalityTree x = Edges.chainOf(2, 2);
        Due.same("parent of block 0", x.block(0, 0), -1);
        Due.same("parent of block 1", x.block(1, 0), 0);
        Due.same("proposer of block 0", x.block(0, 2), 0);
    }

    /** "BAD when there is no such block or validator" */
    private static void balanceOfNone() {
        for (int blocks : new int[] {1, 60}) {
            FinalityTree x = Edges.chainOf(blocks, 5);
            Edges.bad("balance by block", 0, blocks - 1, b -> x.balance(b, 0));
            Edges.bad("balance by validator", 0, 2, v -> x.balance(blocks - 1, v));
            Edges.bad("balance by both", 0, 59, both -> x.balance(both, both));
            Due.same("the last", x.balance(blocks - 1, 2), 32 - (blocks - 1) / 5);
        }
        for (int validators = 3; validators <= 7; validators++) {
            FinalityTree y = new FinalityTree(validators, 0, 2);
            Edges.bad("balance", 0, validators - 1, v -> y.balance(0, v));
            Due.same("the last validator", y.balance(0, validators - 1), 32);
        }
    }

    /** "false when there is no such block or validator" */
    private static void punishedOfNone() {
        FinalityTree x = withPunished();
        x.accuse(6, 7);
        Due.same("the first and the last are punished", x.propose(2, 9), 3);
        Due.yes("the first", x.punished(3, 0));
        Due.yes("the last", x.punished(3, 3));
        Due.no("one between", x.punished(3, 1));
        Edges.no("punished by block", 0, 3, b -> x.punished(b, 0));
        Edges.no("punished by validator", 0, 3, v -> x.punished(3, v));
        Edges.no("punished by both", 0, 3, both -> x.punished(both, both));
    }

    /** "BAD when there is no such block" */
    private static void countedOfNoSuchBlock() {
        for (int blocks : new int[] {1, 2, 60}) {
            FinalityTree x = Edges.chainOf(blocks, 2);
            Edges.bad("counted", 0, blocks - 1, b -> x.counted(b, 0));
            Edges.bad("counted for no epoch", 0, blocks - 1, b -> x.counted(b, -1));
            Due.same("the first", x.counted(0, 0), 0);
            Due.same("the last", x.counted(blocks - 1, (blocks - 1) / 2), 0);
        }
    }

    /** "who is COUNTED for two epochs, that of the block's slot and the one before": for others nobody */
    private static void countedForAnyOtherEpoch() {
        FinalityTree x = new FinalityTree(4, 0x3210, 2);
        x.vote(1, 0, 3);
        x.vote(2, 0, 4);
        x.include(0);
        x.include(1);
        Due.same("counts for epochs 1 and 2", x.propose(0, 5), 1);
        Due.same("for epoch 1", x.counted(1, 1), 2);
        Due.same("for epoch 2", x.counted(1, 2), 3);
        for (int epoch : Edges.outside(1, 2)) {
            Due.same("for epoch " + epoch, x.counted(1, epoch), 0);
        }
        x.propose(1, 6);
        Due.same("epoch 1 is two before", x.counted(2, 1), 0);
        Due.same("epoch 2 is the one before", x.counted(2, 2), 3);
        Due.same("epoch 3 is its own", x.counted(2, 3), 0);
        x.propose(1, 8);
        Due.same("epoch 2 is two before", x.counted(3, 2), 0);
        for (int epoch : Edges.outside(0, 0)) {
            Due.same("of block 0 for epoch " + epoch, x.counted(0, epoch), 0);
        }
    }
}
