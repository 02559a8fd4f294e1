import java.util.List;
import java.util.Random;

/**
 * Runs of 512 calls from fixed seeds, each answer compared with that of the plain model. The calls are
 * drawn so that chains grow, epochs become final on several branches and validators break the rules; how
 * often each of these came is looked at in the end, lest the runs become empty without anybody noticing.
 * Two objects are used in turn, so that one which has a part in the other's answers is seen.
 */
public final class ModelTest {
    private static final int RUNS = 3000;
    private static final int CALLS = 512;
    /** Takes neighbouring seeds far apart: the golden ratio as a part of 2^64. */
    private static final long SPREAD = 0x9E3779B97F4A7C15L;

    private final Random random;
    private final FinalityTree x;
    private final PlainModel model;
    private final StringBuilder calls = new StringBuilder();
    private final boolean longChains;
    private int left = CALLS;

    /** How many runs there were of each number of validators and each length. */
    private static final int[][] SIZES = new int[8][6];
    private static int finals = 0;
    private static int conflicts = 0;
    private static int punishments = 0;
    private static int forgotten = 0;
    private static int full = 0;
    private static int spoiled = 0;

    private ModelTest(long seed) {
        // The first numbers of neighbouring seeds are alike: unspread, no run would have 3 or 4 validators.
        random = new Random(seed * SPREAD);
        int validators = random.nextInt(8) + 1;
        int weights = random.nextInt(3) == 0 ? 0 : random.nextInt();
        int length = random.nextInt(6) + 1;
        longChains = random.nextBoolean();
        x = new FinalityTree(validators, weights, length);
        model = new PlainModel(validators, weights, length);
        SIZES[model.validators][model.length]++;
        calls.append("new ").append(validators).append(' ').append(weights).append(' ').append(length);
    }

    public static void main(String[] args) {
        for (int seed = 0; seed < RUNS; seed += 2) {
            ModelTest one = new ModelTest(seed);
            ModelTest other = new ModelTest(seed + 1);
            while (one.left > 0 || other.left > 0) {
                one.step();
                other.step();
            }
        }
        System.out.println("final " + finals + ", conflicts " + conflicts + ", punished " + punishments
                + ", forgotten " + forgotten + ", full " + full + ", spoiled " + spoiled);
        for (int validators = 3; validators <= 7; validators++) {
            for (int length = 2; length <= 5; length++) {
                Due.yes("runs of " + validators + " validators and length " + length,
                        SIZES[validators][length] > 20);
            }
        }
        Due.yes("some became final", finals > 100);
        Due.yes("some conflicted", conflicts > 20);
        Due.yes("some were punished", punishments > 100);
        Due.yes("some blocks were forgotten", forgotten > 100);
        Due.yes("some objects were full", full > 20);
        Due.yes("some blocks were spoiled", spoiled > 100);
        Due.end();
    }

    private void step() {
        int kind = random.nextInt(10);
        if (left <= 0) {
            return;
        }
        if (left <= 150) {
            ask();
        } else if (kind < 5) {
            round();
        } else if (kind < 7) {
            wander();
        } else {
            gossip();
        }
    }

    private int same(String call, int got, int want) {
        left--;
        calls.append("\n").append(call).append(" -> ").append(want);
        if (got != want) {
            System.out.println(calls);
        }
        Due.same(call, got, want);
        return want;
    }

    private boolean same(String call, boolean got, boolean want) {
        return same(call, got ? 1 : 0, want ? 1 : 0) == 1;
    }

    /** Nearly always one of those that are there, else one beside them, else any number. */
    private int one(int many) {
        int kind = random.nextInt(160);
        if (kind == 0) {
            return random.nextInt();
        }
        return kind < 5 ? random.nextInt(many + 3) - 1 : random.nextInt(Math.max(1, many));
    }

    private int recentBlock() {
        int many = model.blocks.size();
        return random.nextInt(3) == 0 ? one(many) : Math.max(0, many - 1 - random.nextInt(4));
    }

    /** Votes of most validators for one head, put into a block behind it. */
    private void round() {
        int head = longChains ? recentBlock() : one(model.blocks.size());
        if (model.noBlock(head)) {
            return;
        }
        int slot = model.blocks.get(head).slot() + random.nextInt(model.length + 1);
        int from = random.nextInt(model.validators);
        int many = random.nextInt(model.validators) + 1;
        for (int k = 0; k < many; k++) {
            int vote = vote((from + k) % model.validators, head, slot);
            if (vote >= 0 && random.nextInt(8) != 0) {
                include(vote);
            }
        }
        if (random.nextInt(4) == 0) {
            accuseSomebody();
        }
        int made = propose(random.nextInt(10) == 0 ? recentBlock() : head,
                slot + 1 + random.nextInt(random.nextInt(4) == 0 ? 2 * model.length : 2));
        if (made < 0 && random.nextInt(6) != 0) {
            same("clear()", x.clear(), model.clear());
        }
    }

    private void accuseSomebody() {
        for (int tries = 0; tries < 3; tries++) {
            int one = one(model.votes.size());
            int other = one(model.votes.size());
            if (same("accuse(" + one + ", " + other + ")", x.accuse(one, other), model.accuse(one, other)) > 0) {
                return;
            }
        }
    }

    private void wander() {
        switch (random.nextInt(6)) {
            case 0 -> vote(one(model.validators), one(model.blocks.size()), random.nextInt(244) - 1);
            case 1 -> include(one(model.votes.size()));
            case 2 -> accuseSomebody();
            case 3 -> same("clear()", x.clear(), model.clear());
            case 4 -> propose(one(model.blocks.size()), random.nextInt(30));
            default -> propose(recentBlock(), random.nextInt(244) - 1);
        }
    }

    /** A node is given a whole chain, or a block at random, or hears votes. */
    private void gossip() {
        int n = random.nextInt(20) == 0 ? random.nextInt(6) - 1 : random.nextInt(3);
        int kind = random.nextInt(3);
        if (kind == 0) {
            hear(n, one(model.votes.size()));
        } else if (kind == 1 || model.noNode(n)) {
            give(n, one(model.blocks.size()));
        } else {
            giveChain(n, recentBlock());
        }
        if (!model.noNode(n)) {
            same("head(" + n + ")", x.head(n), model.head(n));
        }
    }

    private void giveChain(int n, int b) {
        if (model.noBlock(b)) {
            return;
        }
        List<Integer> chain = model.chain(b);
        for (int i = chain.size() - 1; i >= 0; i--) {
            if (!model.knows(n, chain.get(i))) {
                give(n, chain.get(i));
            }
        }
    }

    private int vote(int v, int head, int slot) {
        return countFull(same("vote(" + v + ", " + head + ", " + slot + ")",
                x.vote(v, head, slot), model.vote(v, head, slot)));
    }

    private int include(int vote) {
        return same("include(" + vote + ")", x.include(vote), model.include(vote));
    }

    private int propose(int parent, int slot) {
        int made = countFull(same("propose(" + parent + ", " + slot + ")",
                x.propose(parent, slot), model.propose(parent, slot)));
        if (made <= -10) {
            spoiled++;
        }
        if (made > 0) {
            int asked = random.nextInt(model.validators);
            same("balance(" + made + ", " + asked + ")", x.balance(made, asked), model.balance(made, asked));
            for (int v = 0; v < model.validators; v++) {
                punishments += model.punished(made, v) && !model.punished(parent, v) ? 1 : 0;
            }
            finals += model.block(made, 6) > model.block(parent, 6) ? 1 : 0;
        }
        return made;
    }

    private int countFull(int answer) {
        full += answer == -2 ? 1 : 0;
        return answer;
    }

    private void give(int n, int b) {
        int before = model.noNode(n) ? 0 : model.nodes.get(n).known.size();
        same("give(" + n + ", " + b + ")", x.give(n, b), model.give(n, b));
        forgotten += !model.noNode(n) && model.nodes.get(n).known.size() < before ? 1 : 0;
    }

    private void hear(int n, int vote) {
        same("hear(" + n + ", " + vote + ")", x.hear(n, vote), model.hear(n, vote));
    }

    private void ask() {
        int b = one(model.blocks.size());
        int n = random.nextInt(20) == 0 ? random.nextInt(6) - 1 : random.nextInt(3);
        int m = random.nextInt(20) == 0 ? random.nextInt(6) - 1 : random.nextInt(3);
        int v = one(model.validators);
        int i = one(model.votes.size());
        int what = random.nextInt(11) - 1;
        // A whole chain may be given to a node, which must not take the run beyond its last call.
        switch (random.nextInt(left > 64 ? 12 : 11)) {
            case 0 -> same("block(" + b + ", " + what + ")", x.block(b, what), model.block(b, what));
            case 1 -> same("balance(" + b + ", " + v + ")", x.balance(b, v), model.balance(b, v));
            case 2 -> same("punished(" + b + ", " + v + ")", x.punished(b, v), model.punished(b, v));
            case 3 -> askCounted(b);
            case 4 -> same("ballot(" + i + ", " + what + ")", x.ballot(i, what), model.ballot(i, what));
            case 5 -> same("knows(" + n + ", " + b + ")", x.knows(n, b), model.knows(n, b));
            case 6 -> same("head(" + n + ")", x.head(n), model.head(n));
            case 7 -> same("checkpoint(" + n + ", " + what % 5 + ")",
                    x.checkpoint(n, what % 5), model.checkpoint(n, what % 5));
            case 8 -> conflicts += same("conflict(" + n + ", " + m + ")",
                    x.conflict(n, m), model.conflict(n, m)) ? 1 : 0;
            case 9 -> askGuilty(random.nextInt(), random.nextInt(4) == 0);
            case 10 -> same("proof(" + v + ")", x.proof(v), model.proof(v));
            default -> gossip();
        }
    }

    private void askCounted(int b) {
        int own = model.noBlock(b) ? 0 : model.block(b, 1) / model.length;
        int epoch = own + 1 - random.nextInt(4);
        same("counted(" + b + ", " + epoch + ")", x.counted(b, epoch), model.counted(b, epoch));
    }

    private void askGuilty(int set, boolean all) {
        same("guilty(" + set + ", " + all + ")", x.guilty(set, all), model.guilty(set, all));
    }
}
