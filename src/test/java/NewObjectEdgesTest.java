/** The boundary cases of promise 1 and of the terms that a new object settles: one test for each sentence. */
public final class NewObjectEdgesTest {
    public static void main(String[] args) {
        fewerThanThreeValidatorsAreThree();
        moreThanSevenValidatorsAreSeven();
        threeToSevenValidatorsAreTaken();
        weightsAreOneToSixteen();
        weightsOfEachValidatorAreItsOwnBits();
        weightsBeyondTheValidatorsAreNotInTheTotal();
        weightsNeverChange();
        lengthBelowTwoIsTwo();
        lengthAboveFiveIsFive();
        epochsHaveTheirFirstAndLastSlots();
        blockZeroIsThereAndNoVotes();
        blockZeroHasItsState();
        nodesKnowBlockZeroAtFirst();
        theConstants();
        Due.end();
    }

    private static void hasValidators(int asked, int want) {
        FinalityTree x = new FinalityTree(asked, 0, 2);
        String named = asked + " validators: ";
        Due.same(named + "the first one", x.balance(0, 0), 32);
        Due.same(named + "the last one", x.balance(0, want - 1), 32);
        Due.same(named + "none behind it", x.balance(0, want), -1);
        Due.same(named + "the last one votes", x.vote(want - 1, 0, 2), 0);
        Due.same(named + "none behind it votes", x.vote(want, 0, 2), -1);
        Due.same(named + "the last one has no proof", x.proof(want - 1), -3);
        Due.same(named + "none behind it to ask for", x.proof(want), -1);
        x.propose(0, want - 1);
        x.propose(0, want);
        Due.same(named + "the last one proposes", x.block(1, 2), want - 1);
        Due.same(named + "then the first again", x.block(2, 2), 0);
    }

    /** "3 if that is less than 3" */
    private static void fewerThanThreeValidatorsAreThree() {
        hasValidators(2, 3);
        hasValidators(1, 3);
        hasValidators(0, 3);
        hasValidators(-1, 3);
        hasValidators(-7, 3);
        hasValidators(Integer.MIN_VALUE, 3);
        hasValidators(Integer.MIN_VALUE + 5, 3);
    }

    /** "7 if it is more than 7" */
    private static void moreThanSevenValidatorsAreSeven() {
        hasValidators(8, 7);
        hasValidators(9, 7);
        hasValidators(32, 7);
        hasValidators(65541, 7);
        hasValidators(Integer.MAX_VALUE, 7);
    }

    private static void threeToSevenValidatorsAreTaken() {
        for (int asked = 3; asked <= 7; asked++) {
            hasValidators(asked, asked);
        }
    }

    /** A validator with two votes of one epoch is guilty, so that its weight can be read. */
    private static int weightOf(int validators, int weights, int v) {
        FinalityTree x = new FinalityTree(validators, weights, 2);
        x.vote(v, 0, 2);
        x.vote(v, 0, 3);
        return x.guilty(0, true);
    }

    /** "each has a WEIGHT 1 .. 16" */
    private static void weightsAreOneToSixteen() {
        for (int v = 0; v < 7; v++) {
            for (int bits = 0; bits < 16; bits++) {
                Due.same("weight of " + v + " by " + bits, weightOf(7, bits << 4 * v, v), 1 + bits);
            }
            Due.same("weight of " + v + " by 0", weightOf(7, 0, v), 1);
            Due.same("weight of " + v + " by -1", weightOf(7, -1, v), 16);
        }
    }

    /** "1 + (weights >>> 4 * v & 15)": the bits beside those of v have no part in it. */
    private static void weightsOfEachValidatorAreItsOwnBits() {
        for (int v = 0; v < 7; v++) {
            Due.same("all bits but those of " + v, weightOf(7, ~(15 << 4 * v), v), 1);
            Due.same("the least int, " + v, weightOf(7, Integer.MIN_VALUE, v), 1);
            Due.same("the greatest int, " + v, weightOf(7, Integer.MAX_VALUE, v), 16);
        }
    }

    /** Validators 0 and 1 of three vote; they are two thirds if no other weight is in the total. */
    private static void weightsBeyondTheValidatorsAreNotInTheTotal() {
        for (int validators : new int[] {Integer.MIN_VALUE, 0, 3}) {
            FinalityTree x = new FinalityTree(validators, 0xFFFFF000, 2);
            x.include(x.vote(0, 0, 2));
            x.include(x.vote(1, 0, 2));
            x.propose(0, 3);
            Due.same("2 of 3", x.block(1, 4), 1);
        }
        // Seven validators of weight 1, and an eighth's bits: 5 of 7 are more than two thirds.
        FinalityTree y = new FinalityTree(8, 0xF0000000, 2);
        for (int v = 0; v < 4; v++) {
            y.include(y.vote(v, 0, 2));
        }
        y.propose(0, 3);
        Due.same("4 of 7", y.block(1, 4), 0);
        y.include(y.vote(4, 0, 3));
        y.propose(1, 4);
        Due.same("5 of 7", y.block(2, 4), 1);
    }

    /** "a WEIGHT 1 .. 16, which never changes": neither by balances nor by a punishment. */
    private static void weightsNeverChange() {
        FinalityTree x = new FinalityTree(3, 0x00F, 2);
        x.accuse(x.vote(0, 0, 2), x.vote(0, 0, 3));
        Due.same("a block in which 0 has nothing left", x.propose(0, 64), 1);
        Due.same("nothing left", x.balance(1, 0), 0);
        Due.yes("and punished", x.punished(1, 0));
        x.include(x.vote(0, 1, 64));
        x.propose(1, 65);
        Due.same("16 of 18 are still two thirds", x.block(2, 4), 32);
        Due.same("and still guilty with 16", x.guilty(0, true), 16);
    }

    /** The first slot in which a vote for block 0 has a target behind epoch 0 is the length. */
    private static void hasLength(int asked, int want) {
        FinalityTree x = new FinalityTree(3, 0, asked);
        Due.same("length " + asked + ": the last slot of epoch 0", x.vote(0, 0, want - 1), -3);
        Due.same("length " + asked + ": the first slot of epoch 1", x.vote(0, 0, want), 0);
    }

    /** "2 if that is less" */
    private static void lengthBelowTwoIsTwo() {
        hasLength(1, 2);
        hasLength(0, 2);
        hasLength(-1, 2);
        hasLength(-3, 2);
        hasLength(Integer.MIN_VALUE, 2);
        hasLength(Integer.MIN_VALUE + 4, 2);
    }

    /** "5 if it is more" */
    private static void lengthAboveFiveIsFive() {
        hasLength(2, 2);
        hasLength(3, 3);
        hasLength(4, 4);
        hasLength(5, 5);
        hasLength(6, 5);
        hasLength(7, 5);
        hasLength(65538, 5);
        hasLength(Integer.MAX_VALUE, 5);
    }

    /** "EPOCH e has the slots e * length .. e * length + length - 1", to slot 240 */
    private static void epochsHaveTheirFirstAndLastSlots() {
        for (int length = 2; length <= 5; length++) {
            FinalityTree x = new FinalityTree(3, 0, length);
            for (int e : new int[] {1, 2, 7}) {
                int first = x.vote(0, 0, e * length);
                int last = x.vote(0, 0, e * length + length - 1);
                Due.same("epoch of its first slot", x.ballot(first, 5), e);
                Due.same("epoch of its last slot", x.ballot(last, 5), e);
            }
            Due.same("epoch of slot 240", x.ballot(x.vote(0, 0, 240), 5), 240 / length);
            Due.same("epoch of slot 239", x.ballot(x.vote(0, 0, 239), 5), 240 / length - 1);
        }
    }

    /** "Block 0 is there, and no votes." */
    private static void blockZeroIsThereAndNoVotes() {
        FinalityTree x = new FinalityTree(3, 0, 2);
        Due.same("slot of block 0", x.block(0, 1), 0);
        Due.same("there is no block 1", x.block(1, 1), -1);
        Due.same("there is no vote 0", x.ballot(0, 0), -1);
        Due.same("none to include", x.include(0), -1);
        Due.same("none to accuse", x.accuse(0, 0), -1);
        Due.no("none to hear", x.hear(0, 0));
        Due.same("nobody is guilty", x.guilty(7, true), 0);
        Due.same("no items", x.clear(), 0);
    }

    /** "Of block 0: balances 32, nobody punished, both checkpoints epoch 0 and block 0, nobody counted." */
    private static void blockZeroHasItsState() {
        for (int validators = 3; validators <= 7; validators++) {
            FinalityTree x = new FinalityTree(validators, -1, 5);
            for (int v = 0; v < validators; v++) {
                Due.same("balance of " + v, x.balance(0, v), 32);
                Due.no("punished is " + v, x.punished(0, v));
            }
            for (int what = 1; what < 8; what++) {
                Due.same("block(0, " + what + ")", x.block(0, what), 0);
            }
            Due.same("counted for epoch 0", x.counted(0, 0), 0);
            Due.same("counted for the one before", x.counted(0, -1), 0);
        }
    }

    /** "Each KNOWS some blocks (at first block 0) .. a justified and a final checkpoint, at first .." */
    private static void nodesKnowBlockZeroAtFirst() {
        FinalityTree x = new FinalityTree(3, 0, 2);
        x.propose(0, 1);
        x.vote(0, 0, 2);
        for (int n = 0; n < 3; n++) {
            Due.yes("knows block 0", x.knows(n, 0));
            Due.no("knows block 1", x.knows(n, 1));
            Due.same("head", x.head(n), 0);
            for (int what = 0; what < 4; what++) {
                Due.same("checkpoint " + what, x.checkpoint(n, what), 0);
            }
            Due.yes("has heard nothing", x.hear(n, 0));
        }
    }

    /** "BAD = -1, FULL = -2, REFUSED = -3" */
    private static void theConstants() {
        Due.same("BAD", FinalityTree.BAD, -1);
        Due.same("FULL", FinalityTree.FULL, -2);
        Due.same("REFUSED", FinalityTree.REFUSED, -3);
    }
}
