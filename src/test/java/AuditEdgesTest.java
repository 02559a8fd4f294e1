/** The boundary cases of promises 17 to 19, the audit: one test for each sentence. */
public final class AuditEdgesTest {
    public static void main(String[] args) {
        conflictOfNoSuchNode();
        conflictOfANodeAndItself();
        conflictOfWhatDescends();
        conflictOfTheSameEpochAndOthers();
        guiltyOfNoNode();
        guiltyOfEachNode();
        guiltyOfOtherBits();
        guiltyOfAllAsksNoNode();
        guiltyIsSummedOnce();
        guiltyByTheFirstAndTheLastVote();
        proofOfNoSuchValidator();
        proofOfNone();
        proofHasTheLowestFirst();
        proofHasTheLowestSecond();
        proofByTheFirstAndTheLastVote();
        proofIsOfSomeNode();
        Due.end();
    }

    /** Votes of validators 0 and 1 of three for this block and slot, put into a block of the slot behind. */
    private static int justify(FinalityTree x, int head, int slot) {
        x.include(x.vote(0, head, slot));
        x.include(x.vote(1, head, slot));
        return x.propose(head, slot + 1);
    }

    private static void giveAll(FinalityTree x, int n, int... row) {
        for (int b : row) {
            Due.yes("give(" + n + ", " + b + ")", x.give(n, b));
        }
    }

    /**
     * Three validators, epochs of 2 slots. On one chain 1, 3, 4, 6 make block 1 final for epoch 1 and
     * 9, 10 block 4 for epoch 2; on the other 2, 5, 7, 8 make block 2 final for epoch 1.
     */
    private static FinalityTree withTwoFinals() {
        FinalityTree x = new FinalityTree(3, 0, 2);
        x.propose(0, 2);
        x.propose(0, 2);
        justify(x, 1, 2);
        x.propose(3, 4);
        justify(x, 2, 2);
        Due.same("makes block 1 final", justify(x, 4, 4), 6);
        x.propose(5, 4);
        Due.same("makes block 2 final", justify(x, 7, 4), 8);
        x.propose(6, 6);
        Due.same("makes block 4 final", justify(x, 9, 6), 10);
        giveAll(x, 0, 1, 3, 4, 6);
        giveAll(x, 2, 2, 5, 7, 8);
        return x;
    }

    /** "False when there is no such node." */
    private static void conflictOfNoSuchNode() {
        FinalityTree x = withTwoFinals();
        Due.yes("of nodes 0 and 2", x.conflict(0, 2));
        for (int n = 0; n < 3; n++) {
            int one = n;
            Edges.no("one and " + n, 0, 2, m -> x.conflict(m, one));
            Edges.no(n + " and one", 0, 2, m -> x.conflict(one, m));
        }
        Edges.no("both", 0, 2, m -> x.conflict(m, m));
    }

    /** "neither descends from the other": a block descends from itself */
    private static void conflictOfANodeAndItself() {
        FinalityTree x = withTwoFinals();
        for (int n = 0; n < 3; n++) {
            Due.no("node " + n + " and itself", x.conflict(n, n));
        }
        giveAll(x, 1, 1, 3, 4, 6);
        Due.no("two nodes with one final block", x.conflict(0, 1));
        Due.no("turned round", x.conflict(1, 0));
    }

    private static void conflictOfWhatDescends() {
        FinalityTree x = withTwoFinals();
        Due.no("block 1 descends from block 0", x.conflict(0, 1));
        Due.no("turned round", x.conflict(1, 0));
        giveAll(x, 1, 1, 3, 4, 6, 9, 10);
        Due.same("final block of node 1", x.checkpoint(1, 3), 4);
        Due.no("block 4 descends from block 1", x.conflict(1, 0));
        Due.no("turned round", x.conflict(0, 1));
    }

    private static void conflictOfTheSameEpochAndOthers() {
        FinalityTree x = withTwoFinals();
        Due.yes("blocks 1 and 2 of epoch 1", x.conflict(0, 2));
        Due.yes("turned round", x.conflict(2, 0));
        giveAll(x, 0, 9, 10);
        Due.yes("block 4 of epoch 2 and block 2 of epoch 1", x.conflict(0, 2));
        Due.yes("turned round", x.conflict(2, 0));
    }

    /** Validators of the weights 1, 2 and 4; node n has heard both votes of validator n, which clash. */
    private static FinalityTree withClashes() {
        FinalityTree x = new FinalityTree(3, 0x310, 2);
        for (int v = 0; v < 3; v++) {
            x.hear(v, x.vote(v, 0, 2));
            x.hear(v, x.vote(v, 0, 3));
        }
        return x;
    }

    private static void guiltyOfNoNode() {
        FinalityTree x = withClashes();
        Due.same("the empty set", x.guilty(0, false), 0);
        Due.same("a set of bits that stand for nothing", x.guilty(8, false), 0);
        FinalityTree y = new FinalityTree(3, 0x310, 2);
        Due.same("no votes heard", y.guilty(7, false), 0);
        Due.same("no votes made", y.guilty(7, true), 0);
    }

    /** "bit n of nodes stands for node n" */
    private static void guiltyOfEachNode() {
        FinalityTree x = withClashes();
        for (int set = 0; set < 8; set++) {
            Due.same("the set " + set, x.guilty(set, false), set);
        }
    }

    /** "other bits are not looked at" */
    private static void guiltyOfOtherBits() {
        FinalityTree x = withClashes();
        for (int bit = 3; bit < 32; bit++) {
            Due.same("bit " + bit + " alone", x.guilty(1 << bit, false), 0);
            Due.same("bit " + bit + " and node 1", x.guilty(1 << bit | 2, false), 2);
        }
        Due.same("the least int", x.guilty(Integer.MIN_VALUE, false), 0);
        Due.same("the greatest int", x.guilty(Integer.MAX_VALUE, false), 7);
        Due.same("all bits", x.guilty(-1, false), 7);
        Due.same("all but node 0's", x.guilty(-2, false), 6);
        Due.same("all but the nodes'", x.guilty(-8, false), 0);
    }

    /** "among all votes there are" */
    private static void guiltyOfAllAsksNoNode() {
        FinalityTree x = new FinalityTree(3, 0x310, 2);
        for (int v = 0; v < 3; v++) {
            x.vote(v, 0, 2);
            x.vote(v, 0, 3);
        }
        for (int set : new int[] {0, 1, 7, 8, -1, Integer.MIN_VALUE, Integer.MAX_VALUE}) {
            Due.same("all with " + set, x.guilty(set, true), 7);
            Due.same("not all with " + set, x.guilty(set, false), 0);
        }
    }

    private static void guiltyIsSummedOnce() {
        FinalityTree x = new FinalityTree(3, 0x310, 5);
        for (int slot = 5; slot < 10; slot++) {
            x.hear(slot % 3, x.vote(2, 0, slot));
        }
        Due.same("five votes of one epoch", x.guilty(7, false), 4);
        Due.same("among all", x.guilty(7, true), 4);
        Due.same("each validator of weight 16", sumOfAll(), 112);
    }

    private static int sumOfAll() {
        FinalityTree x = new FinalityTree(7, -1, 2);
        for (int v = 0; v < 7; v++) {
            x.vote(v, 0, 2);
            x.vote(v, 0, 3);
        }
        return x.guilty(0, true);
    }

    /** 80 votes of which only the first and the last clash. */
    private static FinalityTree withWideClash() {
        FinalityTree x = new FinalityTree(3, 0x310, 2);
        x.vote(2, 0, 2);
        for (int i = 1; i < 79; i++) {
            x.vote(i % 2, 0, 2 + 2 * i);
        }
        Due.same("the last vote", x.vote(2, 0, 3), 79);
        return x;
    }

    private static void guiltyByTheFirstAndTheLastVote() {
        FinalityTree x = withWideClash();
        Due.same("among all", x.guilty(0, true), 4);
        x.hear(0, 0);
        Due.same("the first is heard", x.guilty(7, false), 0);
        x.hear(2, 79);
        Due.same("the last is heard by another", x.guilty(5, false), 4);
        Due.same("not by these", x.guilty(3, false), 0);
    }

    /** "BAD when there is no such validator" */
    private static void proofOfNoSuchValidator() {
        for (int validators = 3; validators <= 7; validators++) {
            FinalityTree x = new FinalityTree(validators, 0, 2);
            x.hear(0, x.vote(0, 0, 2));
            x.hear(0, x.vote(0, 0, 3));
            x.hear(0, x.vote(validators - 1, 0, 2));
            x.hear(0, x.vote(validators - 1, 0, 3));
            Edges.bad("proof", 0, validators - 1, x::proof);
            Due.same("the first", x.proof(0), 1);
            Due.same("the last", x.proof(validators - 1), 203);
        }
    }

    /** "REFUSED when there are none" */
    private static void proofOfNone() {
        FinalityTree x = new FinalityTree(3, 0, 2);
        Due.same("no votes", x.proof(0), -3);
        x.hear(0, x.vote(0, 0, 2));
        Due.same("one vote", x.proof(0), -3);
        x.hear(0, x.vote(0, 0, 4));
        Due.same("two that don't clash", x.proof(0), -3);
        x.vote(0, 0, 3);
        Due.same("one that nobody has heard", x.proof(0), -3);
        x.hear(0, x.vote(1, 0, 2));
        Due.same("one of another validator", x.proof(0), -3);
        x.hear(0, 2);
        Due.same("then votes 0 and 2", x.proof(0), 2);
        Due.same("and none of the other", x.proof(1), -3);
    }

    /** "that with the lowest first one": whatever its second one is */
    private static void proofHasTheLowestFirst() {
        FinalityTree x = new FinalityTree(3, 0, 2);
        x.vote(0, 0, 2);
        x.vote(0, 0, 4);
        x.vote(0, 0, 5);
        x.vote(0, 0, 3);
        x.hear(0, 1);
        x.hear(0, 2);
        x.hear(0, 3);
        Due.same("votes 1 and 2", x.proof(0), 102);
        x.hear(0, 0);
        Due.same("votes 0 and 3", x.proof(0), 3);
    }

    /** "then the lowest second one" */
    private static void proofHasTheLowestSecond() {
        FinalityTree x = new FinalityTree(3, 0, 5);
        for (int slot = 5; slot < 10; slot++) {
            x.vote(1, 0, slot);
        }
        x.hear(0, 4);
        x.hear(0, 1);
        Due.same("votes 1 and 4", x.proof(1), 104);
        x.hear(0, 3);
        Due.same("votes 1 and 3", x.proof(1), 103);
        x.hear(0, 2);
        Due.same("votes 1 and 2", x.proof(1), 102);
        x.hear(0, 0);
        Due.same("votes 0 and 1", x.proof(1), 1);
    }

    /** "100 * the first + the second" */
    private static void proofByTheFirstAndTheLastVote() {
        FinalityTree x = withWideClash();
        x.hear(0, 0);
        x.hear(0, 79);
        Due.same("votes 0 and 79", x.proof(2), 79);
        FinalityTree y = new FinalityTree(3, 0, 2);
        for (int i = 0; i < 78; i++) {
            y.vote(i % 2, 0, 2 + 2 * i);
        }
        y.hear(0, y.vote(2, 0, 238));
        y.hear(1, y.vote(2, 0, 239));
        Due.same("votes 78 and 79", y.proof(2), 7879);
    }

    /** "of those that some node has heard": not all of them by one */
    private static void proofIsOfSomeNode() {
        for (int n = 0; n < 3; n++) {
            for (int m = 0; m < 3; m++) {
                FinalityTree x = new FinalityTree(3, 0, 2);
                x.hear(n, x.vote(1, 0, 2));
                Due.same("one is heard", x.proof(1), -3);
                x.hear(m, x.vote(1, 0, 3));
                Due.same("by nodes " + n + " and " + m, x.proof(1), 1);
            }
        }
    }
}
