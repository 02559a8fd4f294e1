import java.util.Arrays;
import java.util.function.IntPredicate;
import java.util.function.IntUnaryOperator;

/** The numbers beside a range, and calls that must tell them from those inside it. */
final class Edges {
    private Edges() {
    }

    /**
     * The numbers next to a range and the least and the greatest ints; and those that would look like
     * the range's first and last numbers if only some of their bits were looked at.
     */
    static int[] outside(int low, int high) {
        int[] beside = {Integer.MIN_VALUE, Integer.MIN_VALUE + 1, low - 1, high + 1, Integer.MAX_VALUE - 1,
            Integer.MAX_VALUE, low + 32, low + 64, high + 64, low + 256, high + 256, low + 65536, low + (1 << 26),
            high + Integer.MIN_VALUE};
        return Arrays.stream(beside).filter(a -> a < low || a > high).toArray();
    }

    /** None of the numbers beside the range is taken. */
    static void bad(String call, int low, int high, IntUnaryOperator answer) {
        for (int a : outside(low, high)) {
            Due.same(call + " of " + a, answer.applyAsInt(a), FinalityTree.BAD);
        }
    }

    static void no(String call, int low, int high, IntPredicate answer) {
        for (int a : outside(low, high)) {
            Due.no(call + " of " + a, answer.test(a));
        }
    }

    /** So many blocks in a row, block b of slot b, on a new object of three validators of weight 1. */
    static FinalityTree chainOf(int blocks, int length) {
        FinalityTree x = new FinalityTree(3, 0, length);
        for (int b = 1; b < blocks; b++) {
            x.propose(b - 1, b);
        }
        return x;
    }

    /** So many votes for block 0: vote i is of validator i % 3 and slot 10 + i / 3. */
    static FinalityTree withVotes(int votes) {
        FinalityTree x = new FinalityTree(3, 0, 2);
        for (int i = 0; i < votes; i++) {
            x.vote(i % 3, 0, 10 + i / 3);
        }
        return x;
    }
}
