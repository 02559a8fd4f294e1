/** Promises 1, 2 and 11: a new object, vote and ballot. */
public final class VotesTest {
    public static void main(String[] args) {
        newObject();
        validatorsAreHeldIn();
        weightsAreNibbles();
        lengthIsHeldIn();
        voteTakesSourceAndTarget();
        voteSourceIsJustifiedOfHead();
        voteAlike();
        voteWrong();
        voteFull();
        ballotWrong();
        Due.end();
    }

    private static void newObject() {
        FinalityTree x = new FinalityTree(4, 0, 3);
        Due.same("no block 1", x.block(1, 1), -1);
        Due.same("block 0 is there", x.block(0, 1), 0);
        Due.same("no votes", x.ballot(0, 0), -1);
        Due.same("no items", x.clear(), 0);
        for (int v = 0; v < 4; v++) {
            Due.same("first balance", x.balance(0, v), 32);
            Due.no("nobody punished", x.punished(0, v));
        }
        Due.same("nobody counted", x.counted(0, 0), 0);
        for (int n = 0; n < 3; n++) {
            Due.yes("each node knows block 0", x.knows(n, 0));
            Due.same("head of a new node", x.head(n), 0);
            for (int what = 0; what < 4; what++) {
                Due.same("checkpoints of a new node", x.checkpoint(n, what), 0);
            }
        }
    }

    private static int howManyValidators(int asked) {
        FinalityTree x = new FinalityTree(asked, 0, 2);
        int many = 0;
        while (many < 20 && x.balance(0, many) != -1) {
            many++;
        }
        return many;
    }

    private static void validatorsAreHeldIn() {
        Due.same("validators of 2", howManyValidators(2), 3);
        Due.same("validators of 0", howManyValidators(0), 3);
        Due.same("validators of the least int", howManyValidators(Integer.MIN_VALUE), 3);
        for (int asked = 3; asked <= 7; asked++) {
            Due.same("validators of " + asked, howManyValidators(asked), asked);
        }
        Due.same("validators of 8", howManyValidators(8), 7);
        Due.same("validators of the greatest int", howManyValidators(Integer.MAX_VALUE), 7);
    }

    /** Two votes of one epoch make their validator guilty, so that its weight can be read. */
    private static int weightOf(int weights, int v) {
        FinalityTree x = new FinalityTree(7, weights, 2);
        x.vote(v, 0, 2);
        x.vote(v, 0, 3);
        return x.guilty(0, true);
    }

    private static void weightsAreNibbles() {
        int weights = 0x8F3A51C0;
        int[] want = {1, 13, 2, 6, 11, 4, 16};
        for (int v = 0; v < 7; v++) {
            Due.same("weight of " + v, weightOf(weights, v), want[v]);
            Due.same("least weight of " + v, weightOf(0, v), 1);
            Due.same("greatest weight of " + v, weightOf(-1, v), 16);
        }
    }

    /** The first slot with which a vote for block 0 has a target above epoch 0. */
    private static int firstSlotOfEpochOne(int asked) {
        FinalityTree x = new FinalityTree(3, 0, asked);
        int slot = 0;
        while (slot < 20 && x.vote(0, 0, slot) == -3) {
            slot++;
        }
        return slot;
    }

    private static void lengthIsHeldIn() {
        Due.same("length of the least int", firstSlotOfEpochOne(Integer.MIN_VALUE), 2);
        Due.same("length of 0", firstSlotOfEpochOne(0), 2);
        Due.same("length of 1", firstSlotOfEpochOne(1), 2);
        for (int asked = 2; asked <= 5; asked++) {
            Due.same("length of " + asked, firstSlotOfEpochOne(asked), asked);
        }
        Due.same("length of 6", firstSlotOfEpochOne(6), 5);
        Due.same("length of the greatest int", firstSlotOfEpochOne(Integer.MAX_VALUE), 5);
    }

    private static void vote(FinalityTree x, int i, int... want) {
        for (int what = 0; what < 7; what++) {
            Due.same("ballot(" + i + ", " + what + ")", x.ballot(i, what), want[what]);
        }
    }

    private static void voteTakesSourceAndTarget() {
        FinalityTree x = new FinalityTree(3, 0, 3);
        Due.same("block at an epoch's first slot", x.propose(0, 3), 1);
        Due.same("block behind an epoch's first slot", x.propose(1, 7), 2);
        Due.same("a fork", x.propose(0, 4), 3);
        Due.same("of the head's own slot", x.vote(2, 1, 3), 0);
        vote(x, 0, 2, 3, 1, 0, 0, 1, 1);
        Due.same("the slot is above the epoch's first", x.vote(1, 2, 8), 1);
        vote(x, 1, 1, 8, 2, 0, 0, 2, 1);
        Due.same("the target is the head itself", x.vote(0, 2, 9), 2);
        vote(x, 2, 0, 9, 2, 0, 0, 3, 2);
        Due.same("the other chain", x.vote(0, 3, 5), 3);
        vote(x, 3, 0, 5, 3, 0, 0, 1, 0);
        Due.same("the last slot", x.vote(0, 3, 240), 4);
        vote(x, 4, 0, 240, 3, 0, 0, 80, 3);
    }

    private static void voteSourceIsJustifiedOfHead() {
        FinalityTree x = new FinalityTree(3, 0, 2);
        x.propose(0, 2);
        x.vote(0, 1, 2);
        x.vote(1, 1, 2);
        x.include(0);
        x.include(1);
        Due.same("justifies epoch 1", x.propose(1, 3), 2);
        Due.same("source's epoch is the target's", x.vote(2, 2, 3), -3);
        Due.same("the parent's state still allows it", x.vote(2, 1, 3), 2);
        Due.same("one epoch on", x.vote(2, 2, 4), 3);
        vote(x, 3, 2, 4, 2, 1, 1, 2, 2);
    }

    private static void voteAlike() {
        FinalityTree x = new FinalityTree(3, 0, 2);
        x.propose(0, 2);
        Due.same("first", x.vote(0, 1, 4), 0);
        Due.same("another validator", x.vote(1, 1, 4), 1);
        Due.same("another head", x.vote(0, 0, 4), 2);
        Due.same("another slot", x.vote(0, 1, 5), 3);
        Due.same("alike to the first", x.vote(0, 1, 4), 0);
        Due.same("alike to the third", x.vote(0, 0, 4), 2);
        Due.same("no fifth vote", x.ballot(4, 0), -1);
    }

    private static void voteWrong() {
        FinalityTree x = new FinalityTree(3, 0, 2);
        x.propose(0, 5);
        Due.same("validator -1", x.vote(-1, 0, 4), -1);
        Due.same("validator 3 of 3", x.vote(3, 0, 4), -1);
        Due.same("head -1", x.vote(0, -1, 4), -1);
        Due.same("head that is not made", x.vote(0, 2, 4), -1);
        Due.same("slot -1", x.vote(0, 0, -1), -1);
        Due.same("slot 241", x.vote(0, 0, 241), -1);
        Due.same("greatest slot", x.vote(0, 0, Integer.MAX_VALUE), -1);
        Due.same("slot 0 is one, of epoch 0", x.vote(0, 0, 0), -3);
        Due.same("last slot of epoch 0", x.vote(0, 0, 1), -3);
        Due.same("BAD before REFUSED", x.vote(3, 0, 0), -1);
        Due.same("head above the slot", x.vote(0, 1, 4), -3);
        Due.same("nothing was made", x.ballot(0, 0), -1);
        Due.same("head at the slot", x.vote(0, 1, 5), 0);
    }

    private static void voteFull() {
        FinalityTree x = new FinalityTree(4, 0, 2);
        for (int i = 0; i < 80; i++) {
            Due.same("vote " + i, x.vote(i % 4, 0, 10 + i / 4), i);
        }
        Due.same("vote 80", x.vote(0, 0, 50), -2);
        Due.same("alike when full", x.vote(3, 0, 29), 79);
        Due.same("alike to the first when full", x.vote(0, 0, 10), 0);
        Due.same("REFUSED before FULL", x.vote(0, 0, 1), -3);
        Due.same("BAD before FULL", x.vote(4, 0, 50), -1);
        Due.same("no vote 80", x.ballot(80, 0), -1);
        Due.same("vote 79 is there", x.ballot(79, 1), 29);
    }

    private static void ballotWrong() {
        FinalityTree x = new FinalityTree(3, 0, 2);
        x.vote(1, 0, 2);
        Due.same("vote 1 is not there", x.ballot(1, 0), -1);
        Due.same("vote -1", x.ballot(-1, 0), -1);
        Due.same("least vote", x.ballot(Integer.MIN_VALUE, 0), -1);
        Due.same("greatest vote", x.ballot(Integer.MAX_VALUE, 0), -1);
        Due.same("what -1", x.ballot(0, -1), -1);
        Due.same("what 7", x.ballot(0, 7), -1);
    }
}
