/** The boundary cases of promises 3 to 5, include, accuse and clear: one test for each sentence. */
public final class ItemEdgesTest {
    public static void main(String[] args) {
        includeOfNoSuchVote();
        includeIsFullAtFour();
        includeTakesTheSameVoteAgain();
        accuseOfNoSuchVote();
        accuseOfVotesThatDoNotClash();
        theSameVoteDoesNotClash();
        votesOfTwoValidatorsDoNotClash();
        doubleIsOfOneEpochAlone();
        surroundingIsLowerAndHigher();
        accuseIsFullAtFour();
        votesAndEvidenceFillOneRow();
        clearOfNone();
        clearOfAll();
        clearBehindABlock();
        Due.end();
    }

    /** "BAD when there is no such vote" */
    private static void includeOfNoSuchVote() {
        for (int votes : new int[] {0, 1, 80}) {
            FinalityTree x = Edges.withVotes(votes);
            Edges.bad("include", 0, votes - 1, x::include);
            Due.same("nothing was put", x.clear(), 0);
        }
        FinalityTree y = Edges.withVotes(80);
        Due.same("the first", y.include(0), 1);
        Due.same("the last", y.include(79), 2);
    }

    /** "FULL when there are four" */
    private static void includeIsFullAtFour() {
        FinalityTree x = Edges.withVotes(6);
        Due.same("the first", x.include(0), 1);
        Due.same("the second", x.include(1), 2);
        Due.same("the third", x.include(2), 3);
        Due.same("the fourth", x.include(3), 4);
        Due.same("the fifth", x.include(4), -2);
        Due.same("and again", x.include(5), -2);
        Due.same("four are there", x.clear(), 4);
        Due.same("then there is room again", x.include(4), 1);
    }

    /** Whether a vote may be counted is not looked at before a block is proposed. */
    private static void includeTakesTheSameVoteAgain() {
        FinalityTree x = Edges.withVotes(1);
        for (int i = 1; i <= 4; i++) {
            Due.same("time " + i, x.include(0), i);
        }
        Due.same("a fifth time", x.include(0), -2);
    }

    /** "BAD when there is no such vote": neither of the two */
    private static void accuseOfNoSuchVote() {
        for (int votes : new int[] {4, 80}) {
            FinalityTree x = Edges.withVotes(votes);
            Edges.bad("one", 0, votes - 1, one -> x.accuse(one, 0));
            Edges.bad("other", 0, votes - 1, other -> x.accuse(0, other));
            Edges.bad("both", 0, votes - 1, both -> x.accuse(both, both));
            Due.same("nothing was put", x.clear(), 0);
            Due.same("the first and one of its epoch", x.accuse(0, 3), 1);
        }
        FinalityTree y = Edges.withVotes(80);
        Due.same("the last and one of the epoch before", y.accuse(79, 76), -3);
        FinalityTree z = Edges.withVotes(78);
        z.vote(0, 0, 36);
        Due.same("the last vote", z.vote(0, 0, 37), 79);
        Due.same("the last two", z.accuse(78, 79), 1);
        Due.same("the last two, turned round", z.accuse(79, 78), 2);
    }

    /** "then REFUSED when they don't clash" */
    private static void accuseOfVotesThatDoNotClash() {
        FinalityTree x = Edges.withVotes(7);
        Due.same("slots 10 and 11 are of epoch 5", x.accuse(0, 3), 1);
        Due.same("slots 11 and 12 are of two epochs", x.accuse(3, 6), -3);
        Due.same("slots 12 and 11", x.accuse(6, 3), -3);
        Due.same("one item", x.clear(), 1);
    }

    /** "if they are not the same vote" */
    private static void theSameVoteDoesNotClash() {
        FinalityTree x = Edges.withVotes(80);
        for (int i : new int[] {0, 1, 79}) {
            Due.same("vote " + i + " and itself", x.accuse(i, i), -3);
        }
    }

    /** "Two votes of one validator CLASH" */
    private static void votesOfTwoValidatorsDoNotClash() {
        FinalityTree x = Edges.withVotes(6);
        Due.same("of one slot", x.accuse(0, 1), -3);
        Due.same("of one epoch", x.accuse(0, 4), -3);
        Due.same("turned round", x.accuse(4, 0), -3);
        Due.same("of one validator", x.accuse(1, 4), 1);
    }

    /** "their targets have the same epoch (a DOUBLE)": for each length its first and its last slot */
    private static void doubleIsOfOneEpochAlone() {
        for (int length = 2; length <= 5; length++) {
            FinalityTree x = new FinalityTree(3, 0, length);
            x.propose(0, 3 * length);
            int before = x.vote(0, 0, 3 * length - 1);
            int first = x.vote(0, 0, 3 * length);
            int last = x.vote(0, 0, 4 * length - 1);
            int behind = x.vote(0, 0, 4 * length);
            int beside = x.vote(0, 1, 3 * length);
            Due.same("the epoch before", x.accuse(before, first), -3);
            Due.same("the first and the last slot", x.accuse(first, last), 1);
            Due.same("the epoch behind", x.accuse(last, behind), -3);
            Due.same("another target block of the epoch", x.accuse(first, beside), 2);
            Due.same("and turned round", x.accuse(beside, last), 3);
        }
    }

    /**
     * "the source of the one has a lower epoch and its target a higher one": each pair of votes of
     * validator 0 with sources of epochs 0, 1 and 2 and targets up to epoch 5.
     */
    private static void surroundingIsLowerAndHigher() {
        FinalityTree x = new FinalityTree(3, 0, 2);
        x.propose(0, 2);
        x.include(x.vote(1, 1, 2));
        x.include(x.vote(2, 1, 2));
        Due.same("justifies epoch 1", x.propose(1, 3), 2);
        x.propose(2, 4);
        x.include(x.vote(1, 3, 4));
        x.include(x.vote(2, 3, 4));
        Due.same("justifies epoch 2", x.propose(3, 5), 4);
        int[] heads = {1, 2, 4};
        int[][] votes = new int[3][6];
        for (int source = 0; source < 3; source++) {
            for (int target = source + 1; target < 6; target++) {
                int made = x.vote(0, heads[source], 2 * target);
                Due.same("source epoch", x.ballot(made, 3), source);
                Due.same("target epoch", x.ballot(made, 5), target);
                votes[source][target] = made;
            }
        }
        for (int source = 0; source < 3; source++) {
            for (int target = source + 1; target < 6; target++) {
                for (int other = 0; other < 3; other++) {
                    for (int last = other + 1; last < 6; last++) {
                        boolean same = source == other && target == last;
                        boolean wide = source < other && target > last || other < source && last > target;
                        boolean clash = !same && (target == last || wide);
                        String named = source + " to " + target + " and " + other + " to " + last;
                        Due.same(named, x.accuse(votes[source][target], votes[other][last]), clash ? 1 : -3);
                        Due.same(named + ": items", x.clear(), clash ? 1 : 0);
                    }
                }
            }
        }
    }

    /** "then FULL" */
    private static void accuseIsFullAtFour() {
        FinalityTree x = Edges.withVotes(6);
        for (int i = 1; i <= 4; i++) {
            Due.same("item " + i, x.accuse(0, 3), i);
        }
        Due.same("the fifth", x.accuse(0, 3), -2);
        Due.same("and another", x.accuse(1, 4), -2);
        Due.same("four are there", x.clear(), 4);
        Due.same("then there is room again", x.accuse(1, 4), 1);
    }

    /** Evidence is one item, though it has two votes. */
    private static void votesAndEvidenceFillOneRow() {
        FinalityTree x = Edges.withVotes(6);
        Due.same("a vote", x.include(0), 1);
        Due.same("evidence", x.accuse(0, 3), 2);
        Due.same("a vote", x.include(1), 3);
        Due.same("evidence", x.accuse(1, 4), 4);
        Due.same("a vote more", x.include(2), -2);
        Due.same("evidence more", x.accuse(2, 5), -2);
        Due.same("four are there", x.clear(), 4);
    }

    private static void clearOfNone() {
        FinalityTree x = new FinalityTree(3, 0, 2);
        Due.same("of a new object", x.clear(), 0);
        Due.same("and again", x.clear(), 0);
    }

    /** "Takes away all items for the next block: how many they were." */
    private static void clearOfAll() {
        FinalityTree x = Edges.withVotes(6);
        for (int many = 0; many <= 4; many++) {
            for (int i = 0; i < many; i++) {
                x.include(i);
            }
            Due.same("so many", x.clear(), many);
            Due.same("none any more", x.clear(), 0);
        }
        x.include(0);
        x.accuse(0, 3);
        x.clear();
        Due.same("a block without them", x.propose(0, 11), 1);
        Due.same("has no items", x.block(1, 3), 0);
        Due.same("and counts nobody", x.counted(1, 5), 0);
        Due.no("and punishes nobody", x.punished(1, 0));
    }

    /** "A block with the items, which are taken away then." */
    private static void clearBehindABlock() {
        FinalityTree x = Edges.withVotes(6);
        x.include(0);
        Due.same("a block takes it", x.propose(0, 12), 1);
        Due.same("none is left", x.clear(), 0);
        x.include(1);
        Due.same("a block that is refused", x.propose(1, 12), -3);
        Due.same("leaves it", x.clear(), 1);
        x.include(0);
        Due.same("a block that is spoiled", x.propose(0, 20), -10);
        Due.same("leaves it", x.clear(), 1);
    }
}
