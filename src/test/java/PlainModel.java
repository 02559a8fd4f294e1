import java.util.ArrayList;
import java.util.List;
import java.util.Map;
import java.util.Set;
import java.util.TreeMap;
import java.util.TreeSet;

/**
 * The document written down a second time, in another way: chains are walked, states are made anew for
 * each block with whole rows of epochs, and latest votes are looked for in all that was heard.
 */
final class PlainModel {
    record Point(int epoch, int block) {
    }

    record Ballot(int validator, int slot, int head, Point source, Point target) {
    }

    record Item(List<Integer> votes) {
    }

    static final class Spoiled extends RuntimeException {
        private static final long serialVersionUID = 1L;
    }

    static final class World {
        int[] balances;
        Set<Integer> punished = new TreeSet<>();
        Point justified = new Point(0, 0);
        Point last = new Point(0, 0);
        Map<Integer, Set<Integer>> counted = new TreeMap<>();

        Set<Integer> countedFor(int epoch) {
            return counted.computeIfAbsent(epoch, e -> new TreeSet<>());
        }

        World copy() {
            World made = new World();
            made.balances = balances.clone();
            made.punished.addAll(punished);
            made.justified = justified;
            made.last = last;
            counted.forEach((epoch, who) -> made.countedFor(epoch).addAll(who));
            return made;
        }
    }

    record Made(int parent, int slot, int proposer, List<Item> items, World world) {
    }

    static final class Watcher {
        final Set<Integer> known = new TreeSet<>(Set.of(0));
        final Set<Integer> heard = new TreeSet<>();
        Point justified = new Point(0, 0);
        Point last = new Point(0, 0);
    }

    final int validators;
    final int[] weights;
    final int length;
    final List<Made> blocks = new ArrayList<>();
    final List<Ballot> votes = new ArrayList<>();
    final List<Watcher> nodes = List.of(new Watcher(), new Watcher(), new Watcher());
    List<Item> items = new ArrayList<>();

    PlainModel(int validators, int weights, int length) {
        this.validators = validators < 3 ? 3 : validators > 7 ? 7 : validators;
        this.length = length < 2 ? 2 : length > 5 ? 5 : length;
        this.weights = new int[this.validators];
        World first = new World();
        first.balances = new int[this.validators];
        for (int v = 0; v < this.validators; v++) {
            this.weights[v] = 1 + (weights >>> 4 * v & 15);
            first.balances[v] = 32;
        }
        blocks.add(new Made(-1, 0, 0, List.of(), first));
    }

    boolean noBlock(int b) {
        return b < 0 || b >= blocks.size();
    }

    boolean noVote(int i) {
        return i < 0 || i >= votes.size();
    }

    boolean noValidator(int v) {
        return v < 0 || v >= validators;
    }

    boolean noNode(int n) {
        return n < 0 || n > 2;
    }

    List<Integer> chain(int b) {
        List<Integer> row = new ArrayList<>();
        for (int at = b; at >= 0; at = blocks.get(at).parent()) {
            row.add(at);
        }
        return row;
    }

    Point pointOn(List<Integer> chain, int epoch) {
        for (int b : chain) {
            if (blocks.get(b).slot() <= epoch * length) {
                return new Point(epoch, b);
            }
        }
        throw new IllegalStateException("block 0 has slot 0");
    }

    int sum(Set<Integer> who) {
        return who.stream().mapToInt(v -> weights[v]).sum();
    }

    int vote(int v, int head, int slot) {
        if (noValidator(v) || noBlock(head) || slot < 0 || slot > 240) {
            return -1;
        }
        Ballot made = new Ballot(v, slot, head, blocks.get(head).world().justified,
                pointOn(chain(head), slot / length));
        if (blocks.get(head).slot() > slot || made.source().epoch() >= made.target().epoch()) {
            return -3;
        }
        if (votes.contains(made)) {
            return votes.indexOf(made);
        }
        if (votes.size() == 80) {
            return -2;
        }
        votes.add(made);
        return votes.size() - 1;
    }

    int include(int vote) {
        return noVote(vote) ? -1 : put(new Item(List.of(vote)));
    }

    int put(Item item) {
        if (items.size() == 4) {
            return -2;
        }
        items.add(item);
        return items.size();
    }

    boolean clash(Ballot a, Ballot b) {
        if (a.equals(b) || a.validator() != b.validator()) {
            return false;
        }
        return a.target().epoch() == b.target().epoch() || surrounds(a, b) || surrounds(b, a);
    }

    static boolean surrounds(Ballot a, Ballot b) {
        return a.source().epoch() < b.source().epoch() && a.target().epoch() > b.target().epoch();
    }

    int accuse(int one, int other) {
        if (noVote(one) || noVote(other)) {
            return -1;
        }
        if (!clash(votes.get(one), votes.get(other))) {
            return -3;
        }
        return put(new Item(List.of(one, other)));
    }

    int clear() {
        int many = items.size();
        items.clear();
        return many;
    }

    int propose(int parent, int slot) {
        if (noBlock(parent) || slot < 1 || slot > 240) {
            return -1;
        }
        Made before = blocks.get(parent);
        int proposer = slot % validators;
        if (slot <= before.slot() || before.world().punished.contains(proposer)) {
            return -3;
        }
        if (blocks.size() == 60) {
            return -2;
        }
        World world = before.world().copy();
        for (int epoch = before.slot() / length; epoch < slot / length; epoch++) {
            for (int v = 0; v < validators; v++) {
                if (!world.countedFor(epoch).contains(v)) {
                    world.balances[v] = Math.max(0, world.balances[v] - 1);
                }
            }
        }
        for (int i = 0; i < items.size(); i++) {
            try {
                take(world, items.get(i), parent, slot);
            } catch (Spoiled spoiled) {
                return -10 - i;
            }
        }
        blocks.add(new Made(parent, slot, proposer, List.copyOf(items), world));
        items.clear();
        return blocks.size() - 1;
    }

    static void must(boolean holds) {
        if (!holds) {
            throw new Spoiled();
        }
    }

    void take(World world, Item item, int parent, int slot) {
        Ballot vote = votes.get(item.votes().get(0));
        int v = vote.validator();
        int proposer = slot % validators;
        if (item.votes().size() == 2) {
            must(world.punished.add(v));
            world.balances[v] = world.balances[v] / 2;
            world.balances[proposer] += 5;
            return;
        }
        int epoch = vote.slot() / length;
        must(vote.source().equals(world.justified));
        must(vote.slot() < slot && slot - vote.slot() <= length);
        must(vote.target().equals(pointOn(chain(parent), epoch)));
        must(world.countedFor(epoch).add(v));
        world.balances[v] += 2;
        world.balances[proposer] += 1;
        int total = 0;
        for (int weight : weights) {
            total += weight;
        }
        if (sum(world.countedFor(epoch)) * 3 >= total * 2) {
            if (vote.source().epoch() + 1 == vote.target().epoch()) {
                world.last = vote.source();
            }
            world.justified = vote.target();
            world.counted.clear();
        }
    }

    int block(int b, int what) {
        if (noBlock(b) || what < 0 || what > 7) {
            return -1;
        }
        Made asked = blocks.get(b);
        World world = asked.world();
        int[] row = {asked.parent(), asked.slot(), asked.proposer(), asked.items().size(),
            world.justified.epoch(), world.justified.block(), world.last.epoch(), world.last.block()};
        return row[what];
    }

    int balance(int b, int v) {
        return noBlock(b) || noValidator(v) ? -1 : blocks.get(b).world().balances[v];
    }

    boolean punished(int b, int v) {
        return !noBlock(b) && !noValidator(v) && blocks.get(b).world().punished.contains(v);
    }

    int counted(int b, int epoch) {
        if (noBlock(b)) {
            return -1;
        }
        int own = blocks.get(b).slot() / length;
        if (epoch != own && epoch != own - 1) {
            return 0;
        }
        return sum(blocks.get(b).world().countedFor(epoch));
    }

    int ballot(int i, int what) {
        if (noVote(i) || what < 0 || what > 6) {
            return -1;
        }
        Ballot asked = votes.get(i);
        int[] row = {asked.validator(), asked.slot(), asked.head(), asked.source().epoch(),
            asked.source().block(), asked.target().epoch(), asked.target().block()};
        return row[what];
    }

    boolean give(int n, int b) {
        if (noNode(n) || noBlock(b)) {
            return false;
        }
        Watcher node = nodes.get(n);
        Made given = blocks.get(b);
        if (node.known.contains(b) || !node.known.contains(given.parent())) {
            return false;
        }
        node.known.add(b);
        for (Item item : given.items()) {
            node.heard.addAll(item.votes());
        }
        World world = given.world();
        if (world.last.epoch() > node.last.epoch()) {
            node.last = world.last;
            node.known.removeIf(c -> !chain(c).contains(world.last.block()));
            if (!node.known.contains(node.justified.block())
                    || world.justified.epoch() > node.justified.epoch()) {
                node.justified = world.justified;
            }
        } else if (world.justified.epoch() > node.justified.epoch()) {
            node.justified = world.justified;
        }
        return true;
    }

    boolean hear(int n, int vote) {
        return !noNode(n) && !noVote(vote) && nodes.get(n).heard.add(vote);
    }

    boolean knows(int n, int b) {
        return !noNode(n) && !noBlock(b) && nodes.get(n).known.contains(b);
    }

    int latest(Watcher node, int v) {
        int best = -1;
        for (int i : node.heard) {
            boolean later = best < 0 || votes.get(i).slot() >= votes.get(best).slot();
            if (votes.get(i).validator() == v && later) {
                best = i;
            }
        }
        return best;
    }

    int head(int n) {
        if (noNode(n)) {
            return -1;
        }
        Watcher node = nodes.get(n);
        int at = node.justified.block();
        while (true) {
            int next = -1;
            int most = -1;
            for (int child : node.known) {
                int weight = 0;
                for (int v = 0; v < validators; v++) {
                    int vote = latest(node, v);
                    if (vote >= 0 && chain(votes.get(vote).head()).contains(child)) {
                        weight += weights[v];
                    }
                }
                if (blocks.get(child).parent() == at && weight > most) {
                    next = child;
                    most = weight;
                }
            }
            if (next < 0) {
                return at;
            }
            at = next;
        }
    }

    int checkpoint(int n, int what) {
        if (noNode(n) || what < 0 || what > 3) {
            return -1;
        }
        Watcher node = nodes.get(n);
        int[] row = {node.justified.epoch(), node.justified.block(), node.last.epoch(), node.last.block()};
        return row[what];
    }

    boolean conflict(int n, int m) {
        if (noNode(n) || noNode(m)) {
            return false;
        }
        int one = nodes.get(n).last.block();
        int other = nodes.get(m).last.block();
        return !chain(one).contains(other) && !chain(other).contains(one);
    }

    int guilty(int set, boolean all) {
        Set<Integer> looked = new TreeSet<>();
        for (int i = 0; i < votes.size(); i++) {
            for (int n = 0; n < 3; n++) {
                if (all || (set & 1 << n) != 0 && nodes.get(n).heard.contains(i)) {
                    looked.add(i);
                }
            }
        }
        Set<Integer> found = new TreeSet<>();
        for (int i : looked) {
            for (int j : looked) {
                if (clash(votes.get(i), votes.get(j))) {
                    found.add(votes.get(i).validator());
                }
            }
        }
        return sum(found);
    }

    int proof(int v) {
        if (noValidator(v)) {
            return -1;
        }
        Set<Integer> looked = new TreeSet<>();
        nodes.forEach(node -> looked.addAll(node.heard));
        int best = Integer.MAX_VALUE;
        for (int i : looked) {
            for (int j : looked) {
                if (i < j && votes.get(i).validator() == v && clash(votes.get(i), votes.get(j))) {
                    best = Math.min(best, 100 * i + j);
                }
            }
        }
        return best == Integer.MAX_VALUE ? -3 : best;
    }
}
