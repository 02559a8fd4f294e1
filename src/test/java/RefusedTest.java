/**
 * "A call that is refused changes nothing.": behind each kind of refused call every question has the answer
 * that it had before, and the items for the next block make the same blocks. So it is behind each question,
 * for which the document tells no change.
 */
public final class RefusedTest {
    private static final int MIN = Integer.MIN_VALUE;
    private static final int MAX = Integer.MAX_VALUE;

    public static void main(String[] args) {
        questionsSeeWhatIsDone();
        questionsChangeNothing();
        refusedVotes();
        refusedItems();
        refusedBlocks();
        refusedQuestionsOfTheTree();
        refusedOfTheNodes();
        refusedOfTheAudit();
        fullOfVotes();
        fullOfItems();
        fullOfBlocks();
        spoiledBlocks();
        Due.end();
    }

    /**
     * Four validators of the weights 1, 2, 3 and 4, epochs of 2 slots. Blocks 1 to 4 in a row: 2 justifies
     * epoch 1, and 4 makes block 1 final and justifies epoch 2; 5 and 6 beside them, 6 with validator 0
     * punished by votes 6 and 7. Votes 0 to 2 and 3 to 5 are those that justify. Node 0 knows the first
     * chain, node 1 the second, node 2 nothing but block 0. Two items are waiting: vote 8, and evidence
     * by votes 9 and 2.
     */
    private static FinalityTree ordinary() {
        FinalityTree x = new FinalityTree(4, 0x3210, 2);
        x.propose(0, 2);
        for (int v = 1; v < 4; v++) {
            x.include(x.vote(v, 1, 2));
        }
        x.propose(1, 3);
        x.propose(2, 4);
        for (int v = 1; v < 4; v++) {
            x.include(x.vote(v, 3, 4));
        }
        x.propose(3, 5);
        x.propose(0, 3);
        x.accuse(x.vote(0, 5, 3), x.vote(0, 0, 2));
        x.propose(5, 4);
        for (int b = 1; b <= 4; b++) {
            x.give(0, b);
        }
        x.give(1, 5);
        x.give(1, 6);
        x.hear(1, 0);
        x.include(x.vote(0, 4, 6));
        x.accuse(x.vote(3, 1, 3), 2);
        return x;
    }

    private static final Picture ORDINARY = new Picture(RefusedTest::ordinary);

    /** Each call that is not refused changes some answer, so the questions would see a half-done one too. */
    private static void questionsSeeWhatIsDone() {
        Due.same("the first chain is as told", ordinary().block(4, 6), 1);
        Due.same("two items are waiting", ordinary().clear(), 2);
        ORDINARY.changes("vote", x -> x.vote(2, 4, 7));
        ORDINARY.changes("include", x -> x.include(4));
        ORDINARY.changes("accuse", x -> x.accuse(6, 7));
        ORDINARY.changes("clear", FinalityTree::clear);
        ORDINARY.changes("propose", x -> x.propose(4, 7));
        ORDINARY.changes("give", x -> x.give(2, 1) ? 1 : 0);
        ORDINARY.changes("hear", x -> x.hear(2, 0) ? 1 : 0);
    }

    private static void questionsChangeNothing() {
        for (int what = 0; what < 8; what++) {
            int asked = what;
            int[] want = {3, 5, 1, 3, 2, 3, 1, 1};
            ORDINARY.refused("block(4, " + what + ")", x -> x.block(4, asked), want[what]);
        }
        for (int what = 0; what < 7; what++) {
            int asked = what;
            int[] want = {2, 4, 3, 1, 1, 2, 3};
            ORDINARY.refused("ballot(4, " + what + ")", x -> x.ballot(4, asked), want[what]);
        }
        for (int what = 0; what < 4; what++) {
            int asked = what;
            int[] want = {2, 3, 1, 1};
            ORDINARY.refused("checkpoint(0, " + what + ")", x -> x.checkpoint(0, asked), want[what]);
        }
        // Half of 31, and then 5 for the evidence: validator 0 both proposes block 6 and is accused in it.
        ORDINARY.refused("balance(6, 0)", x -> x.balance(6, 0), 20);
        ORDINARY.refused("punished(6, 0)", x -> x.punished(6, 0) ? 1 : 0, 1);
        ORDINARY.refused("counted(4, 2)", x -> x.counted(4, 2), 0);
        ORDINARY.refused("knows(1, 6)", x -> x.knows(1, 6) ? 1 : 0, 1);
        ORDINARY.refused("head(0)", x -> x.head(0), 4);
        ORDINARY.refused("head(1)", x -> x.head(1), 6);
        ORDINARY.refused("conflict(0, 1)", x -> x.conflict(0, 1) ? 1 : 0, 0);
        ORDINARY.refused("guilty(2, false)", x -> x.guilty(2, false), 1);
        ORDINARY.refused("guilty(0, true)", x -> x.guilty(0, true), 5);
        ORDINARY.refused("proof(0)", x -> x.proof(0), 607);
    }

    private static void refusedVotes() {
        for (int wrong : new int[] {MIN, -1, 4, MAX}) {
            ORDINARY.refused("vote of no validator", x -> x.vote(wrong, 4, 7), -1);
        }
        for (int wrong : new int[] {MIN, -1, 7, MAX}) {
            ORDINARY.refused("vote for no block", x -> x.vote(0, wrong, 7), -1);
        }
        for (int wrong : new int[] {MIN, -1, 241, MAX}) {
            ORDINARY.refused("vote in no slot", x -> x.vote(0, 4, wrong), -1);
        }
        ORDINARY.refused("vote below the head's slot", x -> x.vote(0, 1, 1), -3);
        ORDINARY.refused("vote with no epoch between", x -> x.vote(0, 2, 3), -3);
        ORDINARY.refused("a vote that is there", x -> x.vote(1, 1, 2), 0);
    }

    private static void refusedItems() {
        for (int wrong : new int[] {MIN, -1, 10, MAX}) {
            ORDINARY.refused("include of no vote", x -> x.include(wrong), -1);
            ORDINARY.refused("accuse of no vote", x -> x.accuse(wrong, 0), -1);
            ORDINARY.refused("accuse of no other vote", x -> x.accuse(0, wrong), -1);
        }
        ORDINARY.refused("accuse of one vote", x -> x.accuse(2, 2), -3);
        ORDINARY.refused("accuse of two validators", x -> x.accuse(0, 1), -3);
        ORDINARY.refused("accuse of two epochs", x -> x.accuse(0, 3), -3);
    }

    private static void refusedBlocks() {
        for (int wrong : new int[] {MIN, -1, 7, MAX}) {
            ORDINARY.refused("propose behind no block", x -> x.propose(wrong, 7), -1);
        }
        for (int wrong : new int[] {MIN, -1, 0, 241, MAX}) {
            ORDINARY.refused("propose in no slot", x -> x.propose(4, wrong), -1);
        }
        ORDINARY.refused("propose in the parent's slot", x -> x.propose(4, 5), -3);
        ORDINARY.refused("propose below the parent's slot", x -> x.propose(4, 4), -3);
        ORDINARY.refused("propose by the punished", x -> x.propose(6, 8), -3);
        ORDINARY.refused("propose with a wrong first item", x -> x.propose(4, 6), -10);
        ORDINARY.refused("propose with a wrong first item", x -> x.propose(4, 9), -10);
    }

    private static void refusedQuestionsOfTheTree() {
        for (int wrong : new int[] {MIN, -1, 10, MAX}) {
            ORDINARY.refused("block of none", x -> x.block(wrong, 1), -1);
            ORDINARY.refused("block by no number", x -> x.block(4, wrong), -1);
            ORDINARY.refused("balance of no block", x -> x.balance(wrong, 0), -1);
            ORDINARY.refused("balance of no validator", x -> x.balance(4, wrong), -1);
            ORDINARY.no("punished of no block", x -> x.punished(wrong, 0));
            ORDINARY.no("punished of no validator", x -> x.punished(6, wrong));
            ORDINARY.refused("counted of no block", x -> x.counted(wrong, 0), -1);
            ORDINARY.refused("counted of no epoch", x -> x.counted(4, wrong), 0);
            ORDINARY.refused("ballot of none", x -> x.ballot(wrong, 0), -1);
            ORDINARY.refused("ballot by no number", x -> x.ballot(0, wrong), -1);
        }
    }

    private static void refusedOfTheNodes() {
        for (int wrong : new int[] {MIN, -1, 10, MAX}) {
            ORDINARY.no("give to no node", x -> x.give(wrong, 1));
            ORDINARY.no("give of no block", x -> x.give(2, wrong));
            ORDINARY.no("hear of no node", x -> x.hear(wrong, 0));
            ORDINARY.no("hear of no vote", x -> x.hear(2, wrong));
            ORDINARY.no("knows of no node", x -> x.knows(wrong, 0));
            ORDINARY.no("knows of no block", x -> x.knows(2, wrong));
            ORDINARY.refused("head of no node", x -> x.head(wrong), -1);
            ORDINARY.refused("checkpoint of no node", x -> x.checkpoint(wrong, 0), -1);
            ORDINARY.refused("checkpoint by no number", x -> x.checkpoint(0, wrong), -1);
        }
        ORDINARY.no("give of what is known", x -> x.give(0, 4));
        ORDINARY.no("give of block 0", x -> x.give(1, 0));
        ORDINARY.no("give of block 0, which is forgotten", x -> x.give(0, 0));
        ORDINARY.no("give without the parent, votes", x -> x.give(2, 2));
        ORDINARY.no("give without the parent, evidence", x -> x.give(2, 6));
        ORDINARY.no("give without the parent, a final one", x -> x.give(1, 4));
        ORDINARY.no("give behind what is forgotten", x -> x.give(0, 5));
        ORDINARY.no("hear of what is heard", x -> x.hear(1, 0));
        ORDINARY.no("hear of what a block told", x -> x.hear(0, 3));
        ORDINARY.no("hear of what evidence told", x -> x.hear(1, 7));
    }

    private static void refusedOfTheAudit() {
        for (int wrong : new int[] {MIN, -1, 10, MAX}) {
            ORDINARY.no("conflict of no node", x -> x.conflict(wrong, 0));
            ORDINARY.no("conflict with no node", x -> x.conflict(0, wrong));
            ORDINARY.refused("proof of no validator", x -> x.proof(wrong), -1);
        }
        ORDINARY.refused("proof of one who did nothing wrong", x -> x.proof(2), -3);
    }

    private static FinalityTree withAllVotes() {
        FinalityTree x = Edges.withVotes(80);
        x.propose(0, 11);
        x.include(0);
        x.hear(0, 79);
        return x;
    }

    private static void fullOfVotes() {
        Picture full = new Picture(RefusedTest::withAllVotes);
        full.refused("vote 80", x -> x.vote(2, 0, 36), -2);
        full.refused("vote 80 for another head", x -> x.vote(0, 1, 11), -2);
        full.refused("a vote that is there", x -> x.vote(1, 0, 36), 79);
        full.refused("a refused vote", x -> x.vote(1, 1, 10), -3);
        full.refused("a bad vote", x -> x.vote(3, 1, 11), -1);
        full.refused("include of vote 80", x -> x.include(80), -1);
        full.no("hear of vote 80", x -> x.hear(0, 80));
    }

    private static FinalityTree withAllItems() {
        FinalityTree x = new FinalityTree(7, 0, 5);
        for (int v = 0; v < 5; v++) {
            x.vote(v, 0, 5);
            x.vote(v, 0, 6);
        }
        x.include(0);
        x.accuse(2, 3);
        x.include(4);
        x.accuse(7, 6);
        return x;
    }

    private static void fullOfItems() {
        Picture full = new Picture(RefusedTest::withAllItems);
        full.changes("clear", FinalityTree::clear);
        full.changes("propose", x -> x.propose(0, 7));
        full.refused("include of a fifth", x -> x.include(8), -2);
        full.refused("accuse as a fifth", x -> x.accuse(8, 9), -2);
        full.refused("accuse of no clash", x -> x.accuse(8, 8), -3);
        full.refused("include of none", x -> x.include(10), -1);
        full.refused("accuse of none", x -> x.accuse(8, 10), -1);
    }

    private static FinalityTree withAllBlocks() {
        FinalityTree x = Edges.chainOf(59, 2);
        x.include(x.vote(0, 58, 58));
        x.propose(58, 59);
        x.include(x.vote(1, 58, 58));
        x.accuse(x.vote(2, 58, 58), x.vote(2, 58, 59));
        for (int b = 1; b < 60; b++) {
            x.give(0, b);
        }
        return x;
    }

    private static void fullOfBlocks() {
        Picture full = new Picture(RefusedTest::withAllBlocks);
        full.refused("block 60", x -> x.propose(59, 60), -2);
        full.refused("block 60 behind block 0", x -> x.propose(0, 1), -2);
        full.refused("block 60 in no slot", x -> x.propose(59, 241), -1);
        full.refused("block 60 behind itself", x -> x.propose(60, 61), -1);
        full.refused("block 60 below its parent", x -> x.propose(59, 59), -3);
        full.no("give of block 60", x -> x.give(0, 60));
        full.no("give of the last block again", x -> x.give(0, 59));
        full.refused("vote for block 60", x -> x.vote(0, 60, 61), -1);
    }

    /**
     * Four items of which this one alone is not as it must be in a block of slot 8 behind block 0: before
     * it a vote is counted, a validator punished, and epoch 1 justified.
     */
    private static FinalityTree withSpoiling(int wrong) {
        FinalityTree x = new FinalityTree(4, 0x000F, 5);
        x.vote(1, 0, 5);
        x.vote(1, 0, 6);
        x.vote(2, 0, 5);
        x.vote(0, 0, 5);
        x.vote(3, 0, 8);
        x.propose(0, 5);
        Due.same("a vote of another target", x.vote(3, 1, 6), 5);
        int[] bad = {4, 5, 4, 2};
        for (int i = 0; i < 4; i++) {
            if (i == wrong) {
                x.include(bad[i]);
            } else if (i == 1) {
                x.accuse(0, 1);
            } else {
                x.include(i == 0 ? 0 : i == 2 ? 2 : 3);
            }
        }
        return x;
    }

    private static void spoiledBlocks() {
        Due.same("without a wrong one there is a block", withSpoiling(4).propose(0, 8), 2);
        for (int wrong = 0; wrong < 4; wrong++) {
            int item = wrong;
            Picture picture = new Picture(() -> withSpoiling(item));
            picture.refused("item " + item + " spoils it", x -> x.propose(0, 8), -10 - item);
            picture.refused("and does so again", x -> {
                x.propose(0, 8);
                return x.propose(0, 8);
            }, -10 - item);
        }
    }
}
