/** The boundary cases of promises 2 and 11, vote and ballot: one test for each sentence. */
public final class VoteEdgesTest {
    public static void main(String[] args) {
        voteOfNoSuchValidator();
        voteForNoSuchBlock();
        voteInNoSuchSlot();
        voteBelowTheHeadsSlot();
        voteWithTheSourceNotBelowTheTarget();
        voteWithTheSourceNotBelowTheTargetLater();
        voteTargetIsNotAboveTheEpochsFirstSlot();
        voteTargetBlockIsTheGreatestOfSeveral();
        voteAlikeInAllButOne();
        voteAlikeIsLookedForAmongAll();
        voteIsFullAtEighty();
        voteAlikeWhenFull();
        ballotOfNoSuchVote();
        ballotOfAnyOtherNumber();
        Due.end();
    }

    /** "BAD when there is no such validator" */
    private static void voteOfNoSuchValidator() {
        for (int validators = 3; validators <= 7; validators++) {
            FinalityTree x = new FinalityTree(validators, 0, 2);
            Edges.bad("vote", 0, validators - 1, v -> x.vote(v, 0, 2));
            Due.same("the first", x.vote(0, 0, 2), 0);
            Due.same("the last", x.vote(validators - 1, 0, 2), 1);
        }
    }

    /** "BAD when there is no such .. block" */
    private static void voteForNoSuchBlock() {
        for (int blocks : new int[] {1, 2, 60}) {
            FinalityTree x = Edges.chainOf(blocks, 2);
            Edges.bad("head", 0, blocks - 1, head -> x.vote(0, head, 240));
            Due.same("the first", x.vote(0, 0, 240), 0);
            Due.same("the last", x.vote(1, blocks - 1, 240), 1);
        }
    }

    /** "BAD when .. slot is not 0 .. 240" */
    private static void voteInNoSuchSlot() {
        for (int length = 2; length <= 5; length++) {
            FinalityTree x = new FinalityTree(3, 0, length);
            Edges.bad("slot", 0, 240, slot -> x.vote(0, 0, slot));
            Due.same("slot 0 is one, but of epoch 0", x.vote(0, 0, 0), -3);
            Due.same("slot 240", x.vote(0, 0, 240), 0);
            Due.same("slot 239", x.vote(0, 0, 239), 1);
        }
    }

    /** "REFUSED when the head's slot is above slot" */
    private static void voteBelowTheHeadsSlot() {
        FinalityTree x = new FinalityTree(3, 0, 2);
        x.propose(0, 7);
        x.propose(0, 240);
        Due.same("slot 2, far below", x.vote(0, 1, 2), -3);
        Due.same("slot 6, one below", x.vote(0, 1, 6), -3);
        Due.same("slot 7, the head's", x.vote(0, 1, 7), 0);
        Due.same("slot 8, one above", x.vote(0, 1, 8), 1);
        Due.same("slot 239, one below", x.vote(0, 2, 239), -3);
        Due.same("slot 240, the head's", x.vote(0, 2, 240), 2);
        Due.same("slot 0 for a head above it", x.vote(0, 1, 0), -3);
    }

    /** "REFUSED when .. the source's epoch is not below the target's": of block 0 both are 0 */
    private static void voteWithTheSourceNotBelowTheTarget() {
        for (int length = 2; length <= 5; length++) {
            FinalityTree x = new FinalityTree(3, 0, length);
            for (int slot = 0; slot < length; slot++) {
                Due.same("epoch 0 to 0, slot " + slot, x.vote(0, 0, slot), -3);
            }
            Due.same("epoch 0 to 1", x.vote(0, 0, length), 0);
        }
    }

    /** A head whose state has justified epoch 1: slots of epoch 1 are too low, those of epoch 2 are not. */
    private static void voteWithTheSourceNotBelowTheTargetLater() {
        for (int length = 3; length <= 5; length++) {
            FinalityTree x = new FinalityTree(3, 0, length);
            x.include(x.vote(0, 0, length));
            x.include(x.vote(1, 0, length));
            Due.same("justifies epoch 1", x.propose(0, length + 1), 1);
            Due.same("its justified epoch", x.block(1, 4), 1);
            Due.same("the head's own slot", x.vote(2, 1, length + 1), -3);
            Due.same("the last slot of epoch 1", x.vote(2, 1, 2 * length - 1), -3);
            Due.same("the first slot of epoch 2", x.vote(2, 1, 2 * length), 2);
            Due.same("source epoch", x.ballot(2, 3), 1);
            Due.same("source block", x.ballot(2, 4), 0);
            Due.same("target epoch", x.ballot(2, 5), 2);
            Due.same("target block", x.ballot(2, 6), 1);
        }
    }

    /** "the block of the greatest slot in the chain that is not above e * length" */
    private static void voteTargetIsNotAboveTheEpochsFirstSlot() {
        for (int length = 2; length <= 5; length++) {
            for (int e : new int[] {1, 2, 40}) {
                FinalityTree x = new FinalityTree(3, 0, length);
                x.propose(0, e * length - 1);
                x.propose(0, e * length);
                x.propose(0, e * length + 1);
                int last = e * length + length - 1;
                Due.same("a block below the first slot", x.ballot(x.vote(0, 1, last), 6), 1);
                Due.same("a block of the first slot", x.ballot(x.vote(0, 2, last), 6), 2);
                Due.same("a block above the first slot", x.ballot(x.vote(0, 3, last), 6), 0);
                Due.same("its epoch all the same", x.ballot(x.vote(0, 3, last), 5), e);
            }
        }
    }

    /** The whole chain is looked at, whatever blocks lie between in numbers. */
    private static void voteTargetBlockIsTheGreatestOfSeveral() {
        FinalityTree x = new FinalityTree(3, 0, 5);
        x.propose(0, 3);
        x.propose(0, 10);
        x.propose(1, 9);
        x.propose(3, 11);
        x.propose(2, 12);
        Due.same("block 3 of 0, 1, 3, 4", x.ballot(x.vote(0, 4, 14), 6), 3);
        Due.same("block 2 of 0, 2, 5", x.ballot(x.vote(0, 5, 14), 6), 2);
        Due.same("block 4 an epoch on", x.ballot(x.vote(0, 4, 15), 6), 4);
        Due.same("block 5 an epoch on", x.ballot(x.vote(0, 5, 19), 6), 5);
    }

    /** "If there is a vote alike in all, its number" */
    private static void voteAlikeInAllButOne() {
        FinalityTree x = new FinalityTree(3, 0, 5);
        x.propose(0, 6);
        Due.same("the first vote", x.vote(0, 0, 7), 0);
        Due.same("another validator", x.vote(1, 0, 7), 1);
        Due.same("another slot, with the same source and target", x.vote(0, 0, 8), 2);
        Due.same("another head, with the same source and target", x.vote(0, 1, 7), 3);
        Due.same("the same target block", x.ballot(3, 6), x.ballot(0, 6));
        Due.same("the first again", x.vote(0, 0, 7), 0);
        Due.same("the second again", x.vote(1, 0, 7), 1);
        Due.same("the third again", x.vote(0, 0, 8), 2);
        Due.same("the fourth again", x.vote(0, 1, 7), 3);
        Due.same("no fifth was made", x.ballot(4, 0), -1);
        Due.same("the next new one", x.vote(2, 0, 7), 4);
    }

    private static void voteAlikeIsLookedForAmongAll() {
        FinalityTree x = Edges.withVotes(79);
        Due.same("alike to the first", x.vote(0, 0, 10), 0);
        Due.same("alike to the last", x.vote(0, 0, 36), 78);
        Due.same("and a new one is the last that there is", x.vote(1, 0, 36), 79);
    }

    /** "VOTES have numbers 0, 1, .., at most 80"; "then FULL" */
    private static void voteIsFullAtEighty() {
        FinalityTree x = Edges.withVotes(79);
        Due.same("79 are there", x.ballot(78, 1), 36);
        Due.same("the 80th is not yet", x.ballot(79, 1), -1);
        Due.same("the 80th", x.vote(1, 0, 36), 79);
        Due.same("the 81st", x.vote(2, 0, 36), -2);
        Due.same("and again", x.vote(2, 0, 36), -2);
        Due.same("the 80th is there", x.ballot(79, 0), 1);
        Due.same("the 81st is not", x.ballot(80, 0), -1);
    }

    /** A vote alike is there, so that none has to be made. */
    private static void voteAlikeWhenFull() {
        FinalityTree x = Edges.withVotes(80);
        for (int i = 0; i < 80; i++) {
            Due.same("vote " + i + " again", x.vote(i % 3, 0, 10 + i / 3), i);
        }
        Due.same("a new one", x.vote(2, 0, 36), -2);
    }

    /** "BAD when there is no such vote" */
    private static void ballotOfNoSuchVote() {
        for (int votes : new int[] {1, 2, 80}) {
            FinalityTree x = Edges.withVotes(votes);
            for (int what = 0; what < 7; what++) {
                int asked = what;
                Edges.bad("ballot", 0, votes - 1, i -> x.ballot(i, asked));
            }
            Due.same("the first", x.ballot(0, 1), 10);
            Due.same("the last", x.ballot(votes - 1, 1), 10 + (votes - 1) / 3);
        }
    }

    /** "or for any other number" */
    private static void ballotOfAnyOtherNumber() {
        FinalityTree x = new FinalityTree(3, 0, 2);
        x.propose(0, 2);
        x.include(x.vote(0, 1, 2));
        x.include(x.vote(1, 1, 2));
        x.propose(1, 3);
        x.propose(2, 4);
        Due.same("a vote whose answers all differ", x.vote(0, 3, 7), 2);
        int[] want = {0, 7, 3, 1, 1, 3, 3};
        for (int what = 0; what < 7; what++) {
            Due.same("ballot(2, " + what + ")", x.ballot(2, what), want[what]);
        }
        Edges.bad("what", 0, 6, what -> x.ballot(2, what));
    }
}
