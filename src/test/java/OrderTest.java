/** What a call answers that could answer several of BAD, REFUSED, FULL and -10 - i: the first in order. */
public final class OrderTest {
    private static final int BAD = -1;
    private static final int FULL = -2;
    private static final int REFUSED = -3;

    public static void main(String[] args) {
        voteBadBeforeRefused();
        voteBadBeforeFull();
        voteRefusedBeforeFull();
        voteAlikeBeforeFull();
        includeBadBeforeFull();
        accuseBadBeforeRefused();
        accuseBadBeforeFull();
        accuseRefusedBeforeFull();
        proposeBadBeforeRefused();
        proposeBadBeforeFull();
        proposeBadBeforeASpoilingItem();
        proposeRefusedBeforeFull();
        proposeRefusedBeforeASpoilingItem();
        proposeFullBeforeASpoilingItem();
        proofBadBeforeRefused();
        Due.end();
    }

    private static void voteBadBeforeRefused() {
        FinalityTree x = new FinalityTree(3, 0, 2);
        x.propose(0, 7);
        Due.same("no such validator, head above the slot", x.vote(3, 1, 6), BAD);
        Due.same("no such validator, source not below the target", x.vote(-1, 0, 1), BAD);
        Due.same("no such block, source not below the target", x.vote(0, 2, 1), BAD);
        Due.same("no such block, slot 0", x.vote(0, -1, 0), BAD);
        Due.same("slot -1 is below the head's too", x.vote(0, 1, -1), BAD);
        Due.same("the least slot", x.vote(0, 1, Integer.MIN_VALUE), BAD);
        Due.same("slot -1, with a target not above epoch 0", x.vote(0, 0, -1), BAD);
        Due.same("all three are wrong", x.vote(3, 2, 241), BAD);
        Due.same("only refused, by the head", x.vote(0, 1, 6), REFUSED);
        Due.same("only refused, by the source", x.vote(0, 0, 1), REFUSED);
        Due.same("refused by both", x.vote(0, 1, 0), REFUSED);
    }

    /** 80 votes, and block 1 of slot 7. */
    private static FinalityTree fullOfVotes() {
        FinalityTree x = Edges.withVotes(80);
        x.propose(0, 7);
        return x;
    }

    private static void voteBadBeforeFull() {
        FinalityTree x = fullOfVotes();
        Due.same("full", x.vote(0, 0, 50), FULL);
        Due.same("no such validator", x.vote(3, 0, 50), BAD);
        Due.same("no such validator", x.vote(-1, 0, 50), BAD);
        Due.same("no such block", x.vote(0, 2, 50), BAD);
        Due.same("no such block", x.vote(0, -1, 50), BAD);
        Due.same("no such slot", x.vote(0, 0, 241), BAD);
        Due.same("no such slot", x.vote(0, 0, -1), BAD);
        Due.same("refused too", x.vote(3, 1, 6), BAD);
    }

    private static void voteRefusedBeforeFull() {
        FinalityTree x = fullOfVotes();
        Due.same("head above the slot", x.vote(0, 1, 6), REFUSED);
        Due.same("head at the slot", x.vote(0, 1, 7), FULL);
        Due.same("source not below the target", x.vote(0, 0, 1), REFUSED);
        Due.same("source below the target", x.vote(0, 0, 2), FULL);
    }

    private static void voteAlikeBeforeFull() {
        FinalityTree x = fullOfVotes();
        Due.same("the first vote", x.vote(0, 0, 10), 0);
        Due.same("the last vote", x.vote(1, 0, 36), 79);
        Due.same("a vote that would be new", x.vote(2, 0, 36), FULL);
    }

    private static FinalityTree fullOfItems() {
        FinalityTree x = Edges.withVotes(6);
        for (int i = 0; i < 4; i++) {
            x.include(i);
        }
        return x;
    }

    private static void includeBadBeforeFull() {
        FinalityTree x = fullOfItems();
        Due.same("the last vote", x.include(5), FULL);
        Due.same("no such vote", x.include(6), BAD);
        Due.same("no such vote", x.include(-1), BAD);
        Due.same("the least int", x.include(Integer.MIN_VALUE), BAD);
        Due.same("the greatest int", x.include(Integer.MAX_VALUE), BAD);
    }

    private static void accuseBadBeforeRefused() {
        FinalityTree x = Edges.withVotes(6);
        Due.same("the same, that is none", x.accuse(6, 6), BAD);
        Due.same("the same, that is none", x.accuse(-1, -1), BAD);
        Due.same("one is none, so nothing clashes", x.accuse(6, 0), BAD);
        Due.same("other is none, so nothing clashes", x.accuse(0, 6), BAD);
        Due.same("two that don't clash", x.accuse(0, 1), REFUSED);
        Due.same("the same", x.accuse(5, 5), REFUSED);
    }

    private static void accuseBadBeforeFull() {
        FinalityTree x = fullOfItems();
        Due.same("full", x.accuse(0, 3), FULL);
        Due.same("one is none", x.accuse(6, 3), BAD);
        Due.same("other is none", x.accuse(0, -1), BAD);
        Due.same("both are none", x.accuse(6, 6), BAD);
    }

    private static void accuseRefusedBeforeFull() {
        FinalityTree x = fullOfItems();
        Due.same("the same", x.accuse(0, 0), REFUSED);
        Due.same("two validators", x.accuse(0, 1), REFUSED);
        Due.same("they clash", x.accuse(2, 5), FULL);
    }

    /**
     * Three validators, epochs of 2 slots; block 1 of slot 2 has validator 0 punished. Then so many blocks
     * in all, and an item that spoils any block behind slot 5: votes 0 and 1 are of slots 2 and 3.
     */
    private static FinalityTree withPunished(int blocks) {
        FinalityTree x = new FinalityTree(3, 0, 2);
        x.accuse(x.vote(0, 0, 2), x.vote(0, 0, 3));
        Due.same("punishes validator 0", x.propose(0, 2), 1);
        for (int b = 2; b < blocks; b++) {
            Due.same("block " + b, x.propose(0, 1), b);
        }
        Due.same("an item", x.include(1), 1);
        return x;
    }

    private static void proposeBadBeforeRefused() {
        FinalityTree x = withPunished(2);
        x.clear();
        Due.same("slot 0 is not above the parent's either", x.propose(0, 0), BAD);
        Due.same("slot 0 is the punished one's too", x.propose(1, 0), BAD);
        Due.same("slot -1 is below the parent's", x.propose(1, -1), BAD);
        Due.same("the least slot", x.propose(1, Integer.MIN_VALUE), BAD);
        Due.same("slot 243 would be the punished one's", x.propose(1, 243), BAD);
        Due.same("no such parent for a low slot", x.propose(2, 1), BAD);
        Due.same("slot 240 is the punished one's", x.propose(1, 240), REFUSED);
        Due.same("slot 1 is below the parent's", x.propose(1, 1), REFUSED);
    }

    private static void proposeBadBeforeFull() {
        FinalityTree x = withPunished(60);
        x.clear();
        Due.same("full", x.propose(1, 4), FULL);
        Due.same("no such parent", x.propose(60, 4), BAD);
        Due.same("no such parent", x.propose(-1, 4), BAD);
        Due.same("slot 0", x.propose(0, 0), BAD);
        Due.same("slot 241", x.propose(1, 241), BAD);
    }

    private static void proposeBadBeforeASpoilingItem() {
        FinalityTree x = withPunished(2);
        Due.same("the item spoils it", x.propose(1, 10), -10);
        Due.same("no such parent", x.propose(2, 10), BAD);
        Due.same("no such parent", x.propose(-1, 10), BAD);
        Due.same("slot 0", x.propose(0, 0), BAD);
        Due.same("slot 241", x.propose(1, 241), BAD);
    }

    private static void proposeRefusedBeforeFull() {
        FinalityTree x = withPunished(60);
        x.clear();
        Due.same("not above the parent's", x.propose(1, 2), REFUSED);
        Due.same("below the parent's", x.propose(1, 1), REFUSED);
        Due.same("the punished one's slot", x.propose(1, 3), REFUSED);
        Due.same("above, and another's slot", x.propose(1, 4), FULL);
        Due.same("the punished one's slot elsewhere", x.propose(0, 3), FULL);
    }

    private static void proposeRefusedBeforeASpoilingItem() {
        FinalityTree x = withPunished(2);
        Due.same("the item spoils it", x.propose(1, 10), -10);
        Due.same("not above the parent's", x.propose(1, 2), REFUSED);
        Due.same("the punished one's slot", x.propose(1, 12), REFUSED);
        Due.same("elsewhere the item spoils it", x.propose(0, 12), -10);
    }

    private static void proposeFullBeforeASpoilingItem() {
        FinalityTree x = withPunished(60);
        Due.same("an item that would spoil it", x.propose(1, 10), FULL);
        Due.same("an item that would not", x.propose(0, 4), FULL);
        Due.same("it is there still", x.clear(), 1);
    }

    private static void proofBadBeforeRefused() {
        FinalityTree x = new FinalityTree(3, 0, 2);
        Due.same("no votes of no such validator", x.proof(3), BAD);
        Due.same("no votes of no such validator", x.proof(-1), BAD);
        Due.same("no votes of the last one", x.proof(2), REFUSED);
    }
}
