import java.util.ArrayList;
import java.util.List;
import java.util.function.Predicate;
import java.util.function.Supplier;
import java.util.function.ToIntFunction;

/**
 * All that an object answers, to see whether a call has changed something. Each group of questions is put
 * to an object of its own, made by the same calls: an object is good for 512 of them, and what the items
 * for the next block are comes out only by calls that change something.
 */
final class Picture {
    private final Supplier<FinalityTree> maker;
    private final List<String> answers = new ArrayList<>();
    private int blocks;
    private int votes;

    Picture(Supplier<FinalityTree> maker) {
        this.maker = maker;
        count();
        for (int b = 0; b <= blocks; b++) {
            askBlock(maker.get(), b);
            askNodesOf(maker.get(), b);
            askNext(b);
        }
        for (int i = 0; i <= votes; i++) {
            askVote(maker.get(), i);
            askHeard(maker.get(), i);
        }
        askNodes(maker.get());
        askAudit(maker.get());
        askItems();
    }

    /** The call answers so, and then everything is as it was before it. */
    void refused(String call, ToIntFunction<FinalityTree> made, int want) {
        Due.same(call, made.applyAsInt(maker.get()), want);
        List<String> after = behind(made).answers;
        Due.same("how many answers there are behind " + call, after.size(), answers.size());
        for (int i = 0; i < Math.min(answers.size(), after.size()); i++) {
            boolean same = answers.get(i).equals(after.get(i));
            Due.yes("behind " + call + ": " + answers.get(i) + " became " + after.get(i), same);
        }
    }

    /** As refused, for a call that answers false. */
    void no(String call, Predicate<FinalityTree> made) {
        refused(call, x -> made.test(x) ? 1 : 0, 0);
    }

    /** The call does something, and the questions see it; if they did not, they would prove nothing. */
    void changes(String call, ToIntFunction<FinalityTree> made) {
        Due.no(call + " is not seen", behind(made).answers.equals(answers));
    }

    private Picture behind(ToIntFunction<FinalityTree> made) {
        return new Picture(() -> {
            FinalityTree x = maker.get();
            made.applyAsInt(x);
            return x;
        });
    }

    private void count() {
        FinalityTree x = maker.get();
        while (x.block(blocks, 1) != FinalityTree.BAD) {
            blocks++;
        }
        while (x.ballot(votes, 1) != FinalityTree.BAD) {
            votes++;
        }
    }

    private void note(String question, int answer) {
        answers.add(question + " = " + answer);
    }

    private void note(String question, boolean answer) {
        note(question, answer ? 1 : 0);
    }

    private void askBlock(FinalityTree x, int b) {
        for (int what = 0; what < 8; what++) {
            note("block(" + b + ", " + what + ")", x.block(b, what));
        }
        for (int v = 0; v < 7; v++) {
            note("balance(" + b + ", " + v + ")", x.balance(b, v));
            note("punished(" + b + ", " + v + ")", x.punished(b, v));
        }
        for (int epoch = 0; epoch < 9; epoch++) {
            note("counted(" + b + ", " + epoch + ")", x.counted(b, epoch));
        }
    }

    private void askNodesOf(FinalityTree x, int b) {
        for (int n = 0; n < 3; n++) {
            note("knows(" + n + ", " + b + ")", x.knows(n, b));
        }
        for (int n = 0; n < 3; n++) {
            note("give(" + n + ", " + b + ")", x.give(n, b));
            note("head(" + n + ") with " + b, x.head(n));
        }
    }

    /** The blocks that could be made next behind block b: by them the items are seen. */
    private void askNext(int b) {
        int first = maker.get().block(b, 1) + 1;
        for (int slot = first; slot < first + 6; slot++) {
            FinalityTree x = maker.get();
            int made = x.propose(b, slot);
            note("propose(" + b + ", " + slot + ")", made);
            if (made >= 0) {
                askBlock(x, made);
                note("clear() behind it", x.clear());
                askToldBy(x, made);
            }
        }
    }

    /** Which votes a new block tells: of evidence, the state does not show which two they were. */
    private void askToldBy(FinalityTree x, int b) {
        for (int n = 0; n < 3; n++) {
            if (x.give(n, b)) {
                for (int i = 0; i < votes; i++) {
                    note("hear(" + n + ", " + i + ") behind give(" + n + ", " + b + ")", x.hear(n, i));
                }
                return;
            }
        }
    }

    private void askVote(FinalityTree x, int i) {
        for (int what = 0; what < 7; what++) {
            note("ballot(" + i + ", " + what + ")", x.ballot(i, what));
        }
        note("vote again " + i, x.vote(x.ballot(i, 0), x.ballot(i, 2), x.ballot(i, 1)));
        note("a new vote", x.vote(1, 0, 240));
    }

    private void askHeard(FinalityTree x, int i) {
        for (int n = 0; n < 3; n++) {
            note("hear(" + n + ", " + i + ")", x.hear(n, i));
            note("head(" + n + ") with vote " + i, x.head(n));
        }
    }

    private void askNodes(FinalityTree x) {
        for (int n = 0; n < 3; n++) {
            note("head(" + n + ")", x.head(n));
            for (int what = 0; what < 4; what++) {
                note("checkpoint(" + n + ", " + what + ")", x.checkpoint(n, what));
            }
            for (int m = 0; m < 3; m++) {
                note("conflict(" + n + ", " + m + ")", x.conflict(n, m));
            }
        }
    }

    private void askAudit(FinalityTree x) {
        for (int set = 0; set < 8; set++) {
            note("guilty(" + set + ", false)", x.guilty(set, false));
            note("guilty(" + set + ", true)", x.guilty(set, true));
        }
        for (int v = 0; v < 7; v++) {
            note("proof(" + v + ")", x.proof(v));
        }
    }

    private void askItems() {
        note("clear()", maker.get().clear());
        note("include(0)", maker.get().include(0));
        note("accuse(0, 1)", maker.get().accuse(0, 1));
    }
}
