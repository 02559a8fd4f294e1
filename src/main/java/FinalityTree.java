/**
 * A tree of blocks that validators propose and vote for, with the nodes that know a part of it.
 *
 * <p>Every row is made in the constructor and used again, so that no call makes an object. Sets of
 * validators are held as the bits of an int, sets of blocks as the bits of a long, and a checkpoint
 * as one int (see {@link #checkpointOf}).
 */
public final class FinalityTree {
    public static final int BAD = -1;
    public static final int FULL = -2;
    public static final int REFUSED = -3;

    private static final int NONE = -1;
    private static final int FIRST_SPOILED = -10;
    private static final int LAST_SLOT = 240;
    private static final int MAX_VALIDATORS = 7;
    private static final int MAX_BLOCKS = 60;
    private static final int MAX_VOTES = 80;
    private static final int MAX_ITEMS = 4;
    private static final int NODES = 3;
    private static final int ALL_NODES = (1 << NODES) - 1;
    private static final int FIRST_BALANCE = 32;
    private static final int VOTER_REWARD = 2;
    private static final int COUNTING_REWARD = 1;
    private static final int EVIDENCE_REWARD = 5;

    private final int validators;
    private final int length;
    private final int[] weightRow;
    private final int total;
    private final Block[] blocks;
    private int blockCount;
    private final Vote[] votes;
    private int voteCount;
    private final Node[] nodes;
    private final Items pending;
    /** The state of a block that is being proposed, until it is known whether an item spoils it. */
    private final State draft;

    public FinalityTree(int validators, int weights, int length) {
        this.validators = Math.max(3, Math.min(MAX_VALIDATORS, validators));
        this.length = Math.max(2, Math.min(5, length));
        weightRow = new int[MAX_VALIDATORS];
        int sum = 0;
        for (int v = 0; v < this.validators; v++) {
            weightRow[v] = 1 + (weights >>> 4 * v & 15);
            sum += weightRow[v];
        }
        total = sum;
        blocks = new Block[MAX_BLOCKS];
        for (int b = 0; b < MAX_BLOCKS; b++) {
            blocks[b] = new Block();
        }
        votes = new Vote[MAX_VOTES];
        for (int i = 0; i < MAX_VOTES; i++) {
            votes[i] = new Vote();
        }
        nodes = new Node[NODES];
        for (int n = 0; n < NODES; n++) {
            nodes[n] = new Node();
        }
        pending = new Items();
        draft = new State();
        // A new Block already is as block 0 must be.
        blockCount = 1;
        voteCount = 0;
    }

    public int vote(int v, int head, int slot) {
        if (!isValidator(v) || !isBlock(head) || slot < 0 || slot > LAST_SLOT) {
            return BAD;
        }
        int source = blocks[head].state.justified;
        int target = checkpointOn(head, slot / length);
        if (blocks[head].slot > slot || epochOf(source) >= epochOf(target)) {
            return REFUSED;
        }
        int alike = voteAlike(v, head, slot);
        if (alike != NONE) {
            return alike;
        }
        if (voteCount >= MAX_VOTES) {
            return FULL;
        }
        Vote made = votes[voteCount];
        made.validator = v;
        made.slot = slot;
        made.head = head;
        made.source = source;
        made.target = target;
        return voteCount++;
    }

    public int include(int vote) {
        if (!isVote(vote)) {
            return BAD;
        }
        return pending.append(vote, NONE);
    }

    public int accuse(int one, int other) {
        if (!isVote(one) || !isVote(other)) {
            return BAD;
        }
        if (!clash(one, other)) {
            return REFUSED;
        }
        return pending.append(one, other);
    }

    public int clear() {
        int taken = pending.count;
        pending.count = 0;
        return taken;
    }

    public int propose(int parent, int slot) {
        if (!isBlock(parent) || slot < 1 || slot > LAST_SLOT) {
            return BAD;
        }
        int proposer = slot % validators;
        State before = blocks[parent].state;
        if (slot <= blocks[parent].slot || isIn(before.punishedSet, proposer)) {
            return REFUSED;
        }
        if (blockCount >= MAX_BLOCKS) {
            return FULL;
        }
        draft.copyFrom(before);
        draft.passTo(slot / length, validators);
        for (int i = 0; i < pending.count; i++) {
            if (!takeItem(i, parent, slot)) {
                return FIRST_SPOILED - i;
            }
        }
        Block made = blocks[blockCount];
        made.parent = parent;
        made.slot = slot;
        made.proposer = proposer;
        made.chain = blocks[parent].chain | 1L << blockCount;
        made.items.copyFrom(pending);
        made.state.copyFrom(draft);
        pending.count = 0;
        return blockCount++;
    }

    public int block(int b, int what) {
        if (!isBlock(b)) {
            return BAD;
        }
        Block asked = blocks[b];
        switch (what) {
            case 0:
                return asked.parent == NONE ? BAD : asked.parent;
            case 1:
                return asked.slot;
            case 2:
                return asked.proposer;
            case 3:
                return asked.items.count;
            case 4:
                return epochOf(asked.state.justified);
            case 5:
                return blockOf(asked.state.justified);
            case 6:
                return epochOf(asked.state.finalized);
            case 7:
                return blockOf(asked.state.finalized);
            default:
                return BAD;
        }
    }

    public int balance(int b, int v) {
        if (!isBlock(b) || !isValidator(v)) {
            return BAD;
        }
        return blocks[b].state.balances[v];
    }

    public boolean punished(int b, int v) {
        return isBlock(b) && isValidator(v) && isIn(blocks[b].state.punishedSet, v);
    }

    public int counted(int b, int epoch) {
        if (!isBlock(b)) {
            return BAD;
        }
        return weightOf(blocks[b].state.countedFor(epoch));
    }

    public int ballot(int i, int what) {
        if (!isVote(i)) {
            return BAD;
        }
        Vote asked = votes[i];
        switch (what) {
            case 0:
                return asked.validator;
            case 1:
                return asked.slot;
            case 2:
                return asked.head;
            case 3:
                return epochOf(asked.source);
            case 4:
                return blockOf(asked.source);
            case 5:
                return epochOf(asked.target);
            case 6:
                return blockOf(asked.target);
            default:
                return BAD;
        }
    }

    public boolean give(int n, int b) {
        if (!isNode(n) || !isBlock(b)) {
            return false;
        }
        Node node = nodes[n];
        int parent = blocks[b].parent;
        // Block 0 has no parent that could be known: once forgotten it can't be given again.
        if (node.isKnown(b) || parent == NONE || !node.isKnown(parent)) {
            return false;
        }
        node.knownBlocks |= 1L << b;
        takeInVotes(node, blocks[b].items);
        takeInCheckpoints(node, blocks[b].state);
        return true;
    }

    public boolean hear(int n, int vote) {
        if (!isNode(n) || !isVote(vote) || nodes[n].heardVotes[vote]) {
            return false;
        }
        takeInVote(nodes[n], vote);
        return true;
    }

    public boolean knows(int n, int b) {
        return isNode(n) && isBlock(b) && nodes[n].isKnown(b);
    }

    public int head(int n) {
        if (!isNode(n)) {
            return BAD;
        }
        int at = blockOf(nodes[n].justified);
        for (int step = 0; step < MAX_BLOCKS; step++) {
            int child = heaviestChild(nodes[n], at);
            if (child == NONE) {
                break;
            }
            at = child;
        }
        return at;
    }

    public int checkpoint(int n, int what) {
        if (!isNode(n)) {
            return BAD;
        }
        switch (what) {
            case 0:
                return epochOf(nodes[n].justified);
            case 1:
                return blockOf(nodes[n].justified);
            case 2:
                return epochOf(nodes[n].finalized);
            case 3:
                return blockOf(nodes[n].finalized);
            default:
                return BAD;
        }
    }

    public boolean conflict(int n, int m) {
        if (!isNode(n) || !isNode(m)) {
            return false;
        }
        int one = blockOf(nodes[n].finalized);
        int other = blockOf(nodes[m].finalized);
        return !descends(one, other) && !descends(other, one);
    }

    public int guilty(int nodes, boolean all) {
        int set = 0;
        for (int v = 0; v < validators; v++) {
            if (lowestClash(v, nodes, all) != NONE) {
                set |= 1 << v;
            }
        }
        return weightOf(set);
    }

    public int proof(int v) {
        if (!isValidator(v)) {
            return BAD;
        }
        int found = lowestClash(v, ALL_NODES, false);
        return found == NONE ? REFUSED : found;
    }

    private boolean isValidator(int v) {
        return v >= 0 && v < validators;
    }

    private boolean isBlock(int b) {
        return b >= 0 && b < blockCount;
    }

    private boolean isVote(int i) {
        return i >= 0 && i < voteCount;
    }

    private static boolean isNode(int n) {
        return n >= 0 && n < NODES;
    }

    private static boolean isIn(int set, int v) {
        return (set >> v & 1) != 0;
    }

    /** An epoch and a block as one number; there are fewer than 64 blocks. */
    private static int checkpointOf(int epoch, int b) {
        return epoch << 6 | b;
    }

    private static int epochOf(int checkpoint) {
        return checkpoint >> 6;
    }

    private static int blockOf(int checkpoint) {
        return checkpoint & 63;
    }

    private boolean descends(int b, int from) {
        return (blocks[b].chain >> from & 1L) != 0;
    }

    private int checkpointOn(int b, int epoch) {
        int found = 0;
        // Slots rise with the numbers along a chain, so the last fitting one has the greatest slot.
        for (int c = 0; c <= b; c++) {
            if (descends(b, c) && blocks[c].slot <= epoch * length) {
                found = c;
            }
        }
        return checkpointOf(epoch, found);
    }

    private int weightOf(int set) {
        int sum = 0;
        for (int v = 0; v < validators; v++) {
            if (isIn(set, v)) {
                sum += weightRow[v];
            }
        }
        return sum;
    }

    /** Source and target follow from the head and the slot, so these three make votes alike. */
    private int voteAlike(int v, int head, int slot) {
        for (int i = 0; i < voteCount; i++) {
            if (votes[i].validator == v && votes[i].head == head && votes[i].slot == slot) {
                return i;
            }
        }
        return NONE;
    }

    private boolean clash(int one, int other) {
        Vote a = votes[one];
        Vote b = votes[other];
        if (one == other || a.validator != b.validator) {
            return false;
        }
        return epochOf(a.target) == epochOf(b.target) || a.surrounds(b) || b.surrounds(a);
    }

    /** Changes the draft by item i; false, with the draft of no more use, when it spoils the block. */
    private boolean takeItem(int i, int parent, int slot) {
        int first = pending.first[i];
        if (pending.second[i] == NONE) {
            return takeVote(votes[first], parent, slot);
        }
        return takeEvidence(votes[first].validator, slot % validators);
    }

    private boolean takeVote(Vote vote, int parent, int slot) {
        if (vote.slot >= slot || vote.slot < slot - length) {
            return false;
        }
        int epoch = vote.slot / length;
        // The new block lies above the vote's slot, so the checkpoint is to be found from its parent on.
        if (vote.source != draft.justified || vote.target != checkpointOn(parent, epoch)) {
            return false;
        }
        if (isIn(draft.countedFor(epoch), vote.validator)) {
            return false;
        }
        draft.addCounted(epoch, vote.validator);
        draft.balances[vote.validator] += VOTER_REWARD;
        draft.balances[slot % validators] += COUNTING_REWARD;
        if (3 * weightOf(draft.countedFor(epoch)) >= 2 * total) {
            draft.justify(vote.source, vote.target);
        }
        return true;
    }

    /** That the two votes clash was looked at when they were put behind the items. */
    private boolean takeEvidence(int accused, int proposer) {
        if (isIn(draft.punishedSet, accused)) {
            return false;
        }
        draft.punishedSet |= 1 << accused;
        draft.balances[accused] /= 2;
        draft.balances[proposer] += EVIDENCE_REWARD;
        return true;
    }

    private void takeInVotes(Node node, Items items) {
        for (int i = 0; i < items.count; i++) {
            takeInVote(node, items.first[i]);
            if (items.second[i] != NONE) {
                takeInVote(node, items.second[i]);
            }
        }
    }

    private void takeInVote(Node node, int vote) {
        int v = votes[vote].validator;
        int last = node.latest[v];
        node.heardVotes[vote] = true;
        if (last == NONE || votes[vote].slot > votes[last].slot
                || votes[vote].slot == votes[last].slot && vote > last) {
            node.latest[v] = vote;
        }
    }

    private void takeInCheckpoints(Node node, State state) {
        boolean lost = false;
        if (epochOf(state.finalized) > epochOf(node.finalized)) {
            node.finalized = state.finalized;
            forgetBeside(node, blockOf(state.finalized));
            lost = !node.isKnown(blockOf(node.justified));
        }
        if (lost || epochOf(state.justified) > epochOf(node.justified)) {
            node.justified = state.justified;
        }
    }

    private void forgetBeside(Node node, int root) {
        for (int b = 0; b < blockCount; b++) {
            if (!descends(b, root)) {
                node.knownBlocks &= ~(1L << b);
            }
        }
    }

    private int heaviestChild(Node node, int parent) {
        int best = NONE;
        int bestWeight = NONE;
        for (int b = parent + 1; b < blockCount; b++) {
            if (blocks[b].parent == parent && node.isKnown(b)) {
                int weight = supportOf(node, b);
                if (weight > bestWeight) {
                    best = b;
                    bestWeight = weight;
                }
            }
        }
        return best;
    }

    private int supportOf(Node node, int b) {
        int set = 0;
        for (int v = 0; v < validators; v++) {
            int last = node.latest[v];
            if (last != NONE && descends(votes[last].head, b)) {
                set |= 1 << v;
            }
        }
        return weightOf(set);
    }

    private int lowestClash(int v, int nodeSet, boolean all) {
        for (int i = 0; i < voteCount; i++) {
            if (votes[i].validator == v && (all || isHeard(i, nodeSet))) {
                for (int j = i + 1; j < voteCount; j++) {
                    if (clash(i, j) && (all || isHeard(j, nodeSet))) {
                        return 100 * i + j;
                    }
                }
            }
        }
        return NONE;
    }

    private boolean isHeard(int vote, int nodeSet) {
        for (int n = 0; n < NODES; n++) {
            if (isIn(nodeSet, n) && nodes[n].heardVotes[vote]) {
                return true;
            }
        }
        return false;
    }

    private static final class Vote {
        int validator;
        int slot;
        int head;
        int source;
        int target;

        boolean surrounds(Vote other) {
            return epochOf(source) < epochOf(other.source) && epochOf(target) > epochOf(other.target);
        }
    }

    /** A row of items: a vote alone has no second one, evidence has two. */
    private static final class Items {
        final int[] first = new int[MAX_ITEMS];
        final int[] second = new int[MAX_ITEMS];
        int count;

        int append(int one, int other) {
            if (count >= MAX_ITEMS) {
                return FULL;
            }
            first[count] = one;
            second[count] = other;
            count++;
            return count;
        }

        void copyFrom(Items other) {
            count = other.count;
            System.arraycopy(other.first, 0, first, 0, MAX_ITEMS);
            System.arraycopy(other.second, 0, second, 0, MAX_ITEMS);
        }
    }

    private static final class Block {
        int parent = NONE;
        int slot;
        int proposer;
        /** The blocks of its chain. Bit 0 is block 0, which is in every chain. */
        long chain = 1L;
        final Items items = new Items();
        final State state = new State();
    }

    /** New, it is the state of block 0. */
    private static final class State {
        final int[] balances = new int[MAX_VALIDATORS];
        int punishedSet;
        int justified;
        int finalized;
        /** That of the block's slot. */
        int epoch;
        int countedNow;
        int countedBefore;

        State() {
            for (int v = 0; v < MAX_VALIDATORS; v++) {
                balances[v] = FIRST_BALANCE;
            }
        }

        void copyFrom(State other) {
            System.arraycopy(other.balances, 0, balances, 0, MAX_VALIDATORS);
            punishedSet = other.punishedSet;
            justified = other.justified;
            finalized = other.finalized;
            epoch = other.epoch;
            countedNow = other.countedNow;
            countedBefore = other.countedBefore;
        }

        void passTo(int newEpoch, int validators) {
            for (; epoch < newEpoch; epoch++) {
                for (int v = 0; v < validators; v++) {
                    if (!isIn(countedNow, v) && balances[v] > 0) {
                        balances[v]--;
                    }
                }
                countedBefore = countedNow;
                countedNow = 0;
            }
        }

        int countedFor(int asked) {
            if (asked == epoch) {
                return countedNow;
            }
            return asked == epoch - 1 ? countedBefore : 0;
        }

        void addCounted(int voteEpoch, int v) {
            if (voteEpoch == epoch) {
                countedNow |= 1 << v;
            } else {
                countedBefore |= 1 << v;
            }
        }

        void justify(int source, int target) {
            if (epochOf(source) == epochOf(target) - 1) {
                finalized = source;
            }
            justified = target;
            countedNow = 0;
            countedBefore = 0;
        }
    }

    private static final class Node {
        /** At first block 0 alone. */
        long knownBlocks = 1L;
        final boolean[] heardVotes = new boolean[MAX_VOTES];
        /** By validator, the number of its latest vote that was heard. */
        final int[] latest = new int[MAX_VALIDATORS];
        int justified;
        int finalized;

        Node() {
            for (int v = 0; v < MAX_VALIDATORS; v++) {
                latest[v] = NONE;
            }
        }

        boolean isKnown(int b) {
            return (knownBlocks >> b & 1L) != 0;
        }
    }
}
