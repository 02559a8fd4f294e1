/** Promises 3, 4 and 5: include, accuse and clear. */
public final class ItemsTest {
    public static void main(String[] args) {
        includeCounts();
        includeWrong();
        accuseDouble();
        accuseSurround();
        accuseWrong();
        accuseFull();
        clearTakesAll();
        Due.end();
    }

    private static FinalityTree withVotes() {
        FinalityTree x = new FinalityTree(3, 0, 2);
        x.propose(0, 2);
        x.vote(0, 1, 2);
        x.vote(1, 1, 2);
        x.vote(1, 1, 3);
        return x;
    }

    private static void includeCounts() {
        FinalityTree x = withVotes();
        Due.same("first", x.include(0), 1);
        Due.same("the same again", x.include(0), 2);
        Due.same("third", x.include(1), 3);
        Due.same("fourth", x.include(2), 4);
        Due.same("fifth", x.include(1), -2);
        Due.same("the fifth was not put", x.clear(), 4);
    }

    private static void includeWrong() {
        FinalityTree x = withVotes();
        Due.same("vote -1", x.include(-1), -1);
        Due.same("vote 3 of 3", x.include(3), -1);
        Due.same("greatest vote", x.include(Integer.MAX_VALUE), -1);
        Due.same("nothing was put", x.clear(), 0);
        for (int i = 0; i < 4; i++) {
            x.include(0);
        }
        Due.same("BAD before FULL", x.include(3), -1);
    }

    private static void accuseDouble() {
        FinalityTree x = withVotes();
        x.propose(0, 3);
        Due.same("the same target in another slot", x.accuse(1, 2), 1);
        Due.same("the other way round", x.accuse(2, 1), 2);
        x.vote(1, 2, 3);
        Due.same("another target of the epoch", x.accuse(1, 3), 3);
        Due.same("three items", x.clear(), 3);
    }

    /** Of validator 0, votes 0: epoch 0 to 1, 1: 0 to 3, 3: 1 to 2, 4: 1 to 3, 5: 0 to 4, 6: 1 to 4. */
    private static void accuseSurround() {
        FinalityTree x = new FinalityTree(3, 0, 2);
        x.propose(0, 2);
        x.vote(0, 1, 2);
        x.vote(0, 1, 6);
        x.vote(1, 1, 2);
        x.include(0);
        x.include(2);
        Due.same("justifies epoch 1", x.propose(1, 3), 2);
        Due.same("epoch 1 to 2", x.vote(0, 2, 4), 3);
        Due.same("epoch 1 to 3", x.vote(0, 2, 6), 4);
        Due.same("epoch 0 to 4", x.vote(0, 1, 8), 5);
        Due.same("epoch 1 to 4", x.vote(0, 2, 8), 6);
        Due.same("surrounds", x.accuse(1, 3), 1);
        Due.same("is surrounded", x.accuse(3, 1), 2);
        Due.same("one source, higher target", x.accuse(0, 1), -3);
        Due.same("higher source, higher target", x.accuse(1, 6), -3);
        Due.same("and the other way round", x.accuse(6, 1), -3);
        Due.same("the source is the other's target", x.accuse(0, 3), -3);
        Due.same("one source, lower target", x.accuse(4, 3), -3);
        Due.same("one target, other sources", x.accuse(1, 4), 3);
        Due.same("surrounds a wide one", x.accuse(4, 5), 4);
        Due.same("four items", x.clear(), 4);
        Due.same("another validator's", x.accuse(2, 5), -3);
    }

    private static void accuseWrong() {
        FinalityTree x = withVotes();
        Due.same("one is none", x.accuse(-1, 1), -1);
        Due.same("one is none yet", x.accuse(3, 1), -1);
        Due.same("other is none", x.accuse(1, -1), -1);
        Due.same("other is none yet", x.accuse(1, 3), -1);
        Due.same("the same vote", x.accuse(1, 1), -3);
        Due.same("two validators", x.accuse(0, 1), -3);
        Due.same("nothing was put", x.clear(), 0);
    }

    private static void accuseFull() {
        FinalityTree x = withVotes();
        for (int i = 1; i <= 4; i++) {
            Due.same("item " + i, x.accuse(1, 2), i);
        }
        Due.same("fifth", x.accuse(1, 2), -2);
        Due.same("REFUSED before FULL", x.accuse(0, 1), -3);
        Due.same("BAD before FULL", x.accuse(1, 9), -1);
        Due.same("a vote behind four of evidence", x.include(0), -2);
        Due.same("four items", x.clear(), 4);
    }

    private static void clearTakesAll() {
        FinalityTree x = withVotes();
        Due.same("none", x.clear(), 0);
        x.include(0);
        x.accuse(1, 2);
        Due.same("two", x.clear(), 2);
        Due.same("none any more", x.clear(), 0);
        Due.same("the first again", x.include(0), 1);
        Due.same("one block takes it", x.propose(1, 3), 2);
        Due.same("a block takes the items away", x.clear(), 0);
        Due.same("items of the block", x.block(2, 3), 1);
    }
}
