import java.util.ArrayDeque;
import java.util.ArrayList;
import java.util.BitSet;
import java.util.Comparator;
import java.util.Deque;
import java.util.List;
import java.util.NoSuchElementException;
import java.util.regex.Matcher;
import java.util.regex.Pattern;

/**
 * The document once more, written apart from BlockLayout and in other ways where there are any: dominators
 * by data flow, chains as lists, all orders one by one, texts by a regular expression.
 */
final class PlainModel {
    private static final Pattern TEXT =
            Pattern.compile("[0-9]{1,2} (stop|go [0-9]{1,2}|if [0-9]{1,2} [0-9]{1,2} -?[0-9]{1,6})");

    private static final class Block {
        int size;
        int kind = 2;
        int[] to = {};
        int[] weight = {};
        int pattern;
        int count;
    }

    private record Saved(List<Integer> order, int hot, int alignment) {
    }

    /** A jump or a branch; its place is counted from the beginning of its block. */
    private static final class Transfer {
        final boolean branch;
        final int target;
        boolean wide;

        Transfer(boolean branch, int target) {
            this.branch = branch;
            this.target = target;
        }

        int bytes() {
            return wide ? (branch ? 6 : 5) : 2;
        }
    }

    private List<Block> blocks = freshBlocks(1);
    private List<Integer> order = ascending(1);
    private int hot = 1;
    private int alignment = 1;
    private int loopLimit = 1;
    private List<Integer> path = new ArrayList<>();
    private String input = "";
    private final Deque<Saved> saved = new ArrayDeque<>();

    private static List<Block> freshBlocks(int n) {
        List<Block> fresh = new ArrayList<>();
        for (int i = 0; i < n; i++) fresh.add(new Block());
        return fresh;
    }

    private static List<Integer> ascending(int n) {
        List<Integer> row = new ArrayList<>();
        for (int i = 0; i < n; i++) row.add(i);
        return row;
    }

    private void index(int... indices) {
        for (int i : indices) if (i < 0 || i >= blocks.size()) throw new IndexOutOfBoundsException();
    }

    private static void argument(boolean good) {
        if (!good) throw new IllegalArgumentException();
    }

    int clear(int n) {
        argument(n >= 1 && n <= 16);
        int previous = blocks.size();
        blocks = freshBlocks(n);
        order = ascending(n);
        hot = n;
        saved.clear();
        return previous;
    }

    int setSize(int b, int size) {
        index(b);
        argument(size >= 0 && size <= 60);
        int previous = blocks.get(b).size;
        blocks.get(b).size = size;
        return previous;
    }

    private int setEnd(int b, int kind, int pattern, int... to) {
        Block block = blocks.get(b);
        int previous = block.kind;
        block.kind = kind;
        block.pattern = pattern;
        block.to = to;
        block.weight = new int[to.length];
        return previous;
    }

    int setGo(int b, int to) {
        index(b, to);
        return setEnd(b, 0, 0, to);
    }

    int setIf(int b, int first, int second, int pattern) {
        index(b, first, second);
        argument(first != second);
        return setEnd(b, 1, pattern, first, second);
    }

    int setStop(int b) {
        index(b);
        return setEnd(b, 2, 0);
    }

    int invert(int b) {
        index(b);
        Block block = blocks.get(b);
        if (block.kind != 1) throw new UnsupportedOperationException();
        block.to = new int[] {block.to[1], block.to[0]};
        block.weight = new int[] {block.weight[1], block.weight[0]};
        block.pattern = -1 - block.pattern;
        return block.to[0];
    }

    int block(int b, int what) {
        index(b);
        argument(what >= 0 && what <= 7);
        Block block = blocks.get(b);
        int[] all = {block.size, block.kind, block.to.length > 0 ? block.to[0] : -1, block.to.length > 1 ? block.to[1] : -1,
            block.count, block.to.length > 0 ? block.weight[0] : 0, block.to.length > 1 ? block.weight[1] : 0,
            isHead(b) ? 1 : 0};
        return all[what];
    }

    private boolean isHead(int head) {
        List<BitSet> dominators = dominators();
        for (int u = 0; u < blocks.size(); u++) {
            if (dominators.get(u) == null || !dominators.get(u).get(head)) continue;
            for (int to : blocks.get(u).to) if (to == head) return true;
        }
        return false;
    }

    /** For each block that is reached, the blocks on all paths to it; null for the others. */
    private List<BitSet> dominators() {
        List<BitSet> found = new ArrayList<>();
        for (int b = 0; b < blocks.size(); b++) found.add(null);
        BitSet start = new BitSet();
        start.set(0);
        found.set(0, start);
        boolean changed = true;
        while (changed) {
            changed = false;
            for (int u = 0; u < blocks.size(); u++) {
                if (found.get(u) == null) continue;
                for (int to : blocks.get(u).to) {
                    BitSet through = (BitSet) found.get(u).clone();
                    if (found.get(to) != null) through.and(found.get(to));
                    through.set(to);
                    if (!through.equals(found.get(to))) {
                        if (to == 0) continue;
                        found.set(to, through);
                        changed = true;
                    }
                }
            }
        }
        return found;
    }

    private List<Integer> execute(int limit) {
        argument(limit >= 1 && limit <= 500);
        List<Integer> way = new ArrayList<>();
        int at = 0;
        while (true) {
            if (way.size() == limit) throw new ArithmeticException();
            int now = at;
            long before = way.stream().filter(b -> b == now).count();
            way.add(at);
            Block block = blocks.get(at);
            if (block.kind == 2) return way;
            at = block.kind == 0 || (block.pattern >>> (before % 32)) % 2 != 0 ? block.to[0] : block.to[1];
        }
    }

    int run(int limit) {
        path = execute(limit);
        for (int i = 0; i < path.size(); i++) {
            Block block = blocks.get(path.get(i));
            block.count++;
            for (int e = 0; e < block.to.length; e++) if (block.to[e] == path.get(i + 1)) block.weight[e]++;
        }
        return path.size();
    }

    int runLayout(int limit) {
        path = execute(limit);
        Addresses addresses = new Addresses(alignment);
        int cycles = 0;
        for (int i = 0; i + 1 < path.size(); i++) {
            int from = path.get(i);
            int to = path.get(i + 1);
            cycles += cyclesOf(from, to, next(from));
            if (to == next(from) && addresses.padding[to] > 0) cycles++;
        }
        return cycles;
    }

    int pathLength() {
        return path.size();
    }

    int pathBlock(int i) {
        if (i < 0 || i >= path.size()) throw new IndexOutOfBoundsException();
        return path.get(i);
    }

    private int sumOfCounts() {
        return blocks.stream().mapToInt(b -> b.count).sum();
    }

    int clearProfile() {
        int sum = sumOfCounts();
        for (Block block : blocks) {
            block.count = 0;
            block.weight = new int[block.to.length];
        }
        return sum;
    }

    private void save() {
        saved.push(new Saved(new ArrayList<>(order), hot, alignment));
        if (saved.size() > 10) saved.removeLast();
    }

    int setAlignment(int a) {
        argument(List.of(1, 2, 4, 8, 16, 32).contains(a));
        save();
        int previous = alignment;
        alignment = a;
        return previous;
    }

    int setLoopLimit(int limit) {
        argument(limit >= 0 && limit <= 9999);
        int previous = loopLimit;
        loopLimit = limit;
        return previous;
    }

    private int next(int b) {
        int at = order.indexOf(b) + 1;
        return at == order.size() || (at - 1 < hot) != (at < hot) ? -1 : order.get(at);
    }

    private int form(int b, int next) {
        Block block = blocks.get(b);
        if (block.kind == 2) return 5;
        if (block.kind == 0) return block.to[0] == next ? 0 : 1;
        if (block.to[1] == next) return 2;
        return block.to[0] == next ? 3 : 4;
    }

    private int cyclesOf(int from, int to, int next) {
        boolean first = blocks.get(from).to[0] == to;
        switch (form(from, next)) {
            case 0: return 0;
            case 1: return 2;
            case 2: return first ? 3 : 1;
            case 3: return first ? 1 : 3;
            default: return first ? 3 : 1 + 2;
        }
    }

    private int cost(int b, int next) {
        int sum = 0;
        Block block = blocks.get(b);
        for (int e = 0; e < block.to.length; e++) sum += block.weight[e] * cyclesOf(b, block.to[e], next);
        return sum;
    }

    private int costs(int positions) {
        int sum = 0;
        for (int i = 0; i < positions; i++) sum += cost(order.get(i), next(order.get(i)));
        return sum;
    }

    int arrange(int method, int coldLimit) {
        argument(method >= 0 && method <= 2 && coldLimit >= -1 && coldLimit <= 9999);
        List<Integer> hotOnes = new ArrayList<>();
        List<Integer> coldOnes = new ArrayList<>();
        for (int b = 0; b < blocks.size(); b++) {
            (b != 0 && blocks.get(b).count <= coldLimit ? coldOnes : hotOnes).add(b);
        }
        if (method == 2 && hotOnes.size() > 7) throw new UnsupportedOperationException();
        save();
        hot = hotOnes.size();
        if (method == 2) {
            order = leastOrder(hotOnes);
        } else {
            List<List<Integer>> chains = new ArrayList<>();
            for (int b : hotOnes) chains.add(new ArrayList<>(List.of(b)));
            if (method == 0) joinByWeights(chains, hotOnes);
            else joinByGains(chains);
            order = placed(chains);
        }
        order.addAll(coldOnes);
        return costs(hot);
    }

    private record Edge(int from, int number, int to, int weight) {
    }

    private void joinByWeights(List<List<Integer>> chains, List<Integer> hotOnes) {
        List<Edge> edges = new ArrayList<>();
        for (int b : hotOnes) {
            Block block = blocks.get(b);
            for (int e = 0; e < block.to.length; e++) {
                if (block.weight[e] > 0 && hotOnes.contains(block.to[e])) edges.add(new Edge(b, e, block.to[e], block.weight[e]));
            }
        }
        edges.sort(Comparator.comparingInt((Edge e) -> -e.weight).thenComparingInt(e -> e.from).thenComparingInt(e -> e.number));
        for (Edge edge : edges) {
            for (List<Integer> one : List.copyOf(chains)) {
                for (List<Integer> other : List.copyOf(chains)) {
                    boolean fit = one != other && last(one) == edge.from && other.get(0) == edge.to && edge.to != 0;
                    if (fit && chains.contains(one) && chains.contains(other)) join(chains, one, other);
                }
            }
        }
    }

    private void joinByGains(List<List<Integer>> chains) {
        while (true) {
            List<Integer> bestOne = null;
            List<Integer> bestOther = null;
            int best = 0;
            chains.sort(Comparator.comparingInt(c -> c.get(0)));
            List<List<Integer>> byLast = new ArrayList<>(chains);
            byLast.sort(Comparator.comparingInt(PlainModel::last));
            for (List<Integer> one : byLast) {
                for (List<Integer> other : chains) {
                    if (one == other || other.get(0) == 0) continue;
                    int gain = cost(last(one), -1) - cost(last(one), other.get(0));
                    if (gain > best) {
                        best = gain;
                        bestOne = one;
                        bestOther = other;
                    }
                }
            }
            if (bestOne == null) return;
            join(chains, bestOne, bestOther);
        }
    }

    private static int last(List<Integer> chain) {
        return chain.get(chain.size() - 1);
    }

    private static void join(List<List<Integer>> chains, List<Integer> one, List<Integer> other) {
        chains.remove(other);
        one.addAll(other);
    }

    private List<Integer> placed(List<List<Integer>> chains) {
        List<Integer> row = new ArrayList<>();
        List<List<Integer>> left = new ArrayList<>(chains);
        left.sort(Comparator.comparingInt(c -> c.get(0)));
        row.addAll(left.remove(0));
        while (!left.isEmpty()) {
            List<Integer> best = left.get(0);
            for (List<Integer> chain : left) if (weightInto(row, chain) > weightInto(row, best)) best = chain;
            left.remove(best);
            row.addAll(best);
        }
        return row;
    }

    private int weightInto(List<Integer> from, List<Integer> chain) {
        int sum = 0;
        for (int b : from) {
            Block block = blocks.get(b);
            for (int e = 0; e < block.to.length; e++) if (chain.contains(block.to[e])) sum += block.weight[e];
        }
        return sum;
    }

    private List<Integer> leastOrder(List<Integer> hotOnes) {
        List<List<Integer>> all = new ArrayList<>();
        orders(new ArrayList<>(List.of(0)), hotOnes, all);
        List<Integer> best = null;
        int least = 0;
        for (List<Integer> row : all) {
            int sum = 0;
            for (int i = 0; i < row.size(); i++) sum += cost(row.get(i), i + 1 < row.size() ? row.get(i + 1) : -1);
            if (best == null || sum < least) {
                best = row;
                least = sum;
            }
        }
        return best;
    }

    private static void orders(List<Integer> row, List<Integer> from, List<List<Integer>> all) {
        if (row.size() == from.size()) all.add(new ArrayList<>(row));
        for (int b : from) {
            if (row.contains(b)) continue;
            row.add(b);
            orders(row, from, all);
            row.remove(row.size() - 1);
        }
    }

    int exchange(int i, int j) {
        index(i, j);
        argument(i != 0 && j != 0);
        save();
        java.util.Collections.swap(order, i, j);
        return order.get(i);
    }

    int setHot(int count) {
        argument(count >= 1 && count <= blocks.size());
        save();
        int previous = hot;
        hot = count;
        return previous;
    }

    int order(int i) {
        index(i);
        return order.get(i);
    }

    /** The addresses with an alignment; each transfer begins short, rounds make the far ones wide. */
    private final class Addresses {
        final int[] address = new int[blocks.size()];
        final int[] padding = new int[blocks.size()];
        final List<List<Transfer>> transfers = new ArrayList<>();
        int hotEnd;
        int end;

        Addresses(int alignment) {
            for (int b = 0; b < blocks.size(); b++) transfers.add(transfersOf(b));
            List<Transfer> far;
            do {
                number(alignment);
                far = far();
                for (Transfer transfer : far) transfer.wide = true;
            } while (!far.isEmpty());
        }

        private List<Transfer> transfersOf(int b) {
            int[] to = blocks.get(b).to;
            switch (form(b, next(b))) {
                case 1: return List.of(new Transfer(false, to[0]));
                case 2: return List.of(new Transfer(true, to[0]));
                case 3: return List.of(new Transfer(true, to[1]));
                case 4: return List.of(new Transfer(true, to[0]), new Transfer(false, to[1]));
                default: return List.of();
            }
        }

        int bytes(int b) {
            return blocks.get(b).kind == 2 ? 1 : transfers.get(b).stream().mapToInt(Transfer::bytes).sum();
        }

        private void number(int alignment) {
            end = 0;
            for (int i = 0; i < order.size(); i++) {
                int b = order.get(i);
                int from = end;
                if (i == hot) while (end % 64 != 0) end++;
                if (isHead(b) && blocks.get(b).count >= loopLimit) while (end % alignment != 0) end++;
                address[b] = end;
                padding[b] = end - from;
                end += blocks.get(b).size + bytes(b);
                if (i < hot) hotEnd = end;
            }
        }

        private List<Transfer> far() {
            List<Transfer> far = new ArrayList<>();
            for (int b = 0; b < blocks.size(); b++) {
                int at = address[b] + blocks.get(b).size;
                for (Transfer transfer : transfers.get(b)) {
                    at += transfer.bytes();
                    int distance = address[transfer.target] - at;
                    if (!transfer.wide && (distance > 127 || distance < -128)) far.add(transfer);
                }
            }
            return far;
        }

        int wide(int b, boolean branch) {
            return (int) transfers.get(b).stream().filter(t -> t.branch == branch && t.wide).count();
        }
    }

    int place(int b, int what) {
        index(b);
        argument(what >= 0 && what <= 3);
        Addresses addresses = new Addresses(alignment);
        int position = order.indexOf(b);
        return new int[] {position, addresses.address[b], addresses.padding[b], position < hot ? 1 : 0}[what];
    }

    int end(int b, int what) {
        index(b);
        argument(what >= 0 && what <= 3);
        Addresses addresses = new Addresses(alignment);
        return new int[] {form(b, next(b)), addresses.bytes(b), addresses.wide(b, true), addresses.wide(b, false)}[what];
    }

    int layout(int what) {
        argument(what >= 0 && what <= 8);
        Addresses addresses = new Addresses(alignment);
        int padding = 0;
        int wide = 0;
        int inverted = 0;
        for (int b = 0; b < blocks.size(); b++) {
            padding += addresses.padding[b];
            wide += addresses.wide(b, true) + addresses.wide(b, false);
            if (form(b, next(b)) == 3) inverted++;
        }
        return new int[] {addresses.hotEnd, addresses.end, hot, padding, wide, costs(blocks.size()), inverted, alignment,
            loopLimit}[what];
    }

    private int cycles(Addresses addresses) {
        int sum = costs(blocks.size());
        for (int b = 0; b < blocks.size(); b++) {
            Block block = blocks.get(b);
            for (int e = 0; e < block.to.length; e++) {
                if (block.to[e] == next(b) && addresses.padding[block.to[e]] > 0) sum += block.weight[e];
            }
        }
        return sum;
    }

    int cycles() {
        return cycles(new Addresses(alignment));
    }

    double meanCycles() {
        if (sumOfCounts() == 0) throw new ArithmeticException();
        return (double) cycles() / sumOfCounts();
    }

    int bestAlignment() {
        record Choice(int alignment, int cycles, int end) {
        }
        List<Choice> choices = new ArrayList<>();
        for (int a = 1; a <= 32; a += a) {
            Addresses addresses = new Addresses(a);
            choices.add(new Choice(a, cycles(addresses), addresses.end));
        }
        choices.sort(Comparator.comparingInt(Choice::cycles).thenComparingInt(Choice::end).thenComparingInt(Choice::alignment));
        return choices.get(0).alignment;
    }

    int feed(char character) {
        if (input.length() == 60) throw new IllegalStateException();
        input += character;
        return input.length();
    }

    int read(int b) {
        index(b);
        String text = input;
        input = "";
        if (!TEXT.matcher(text).matches()) return -100 - faultOf(text);
        String[] words = text.split(" ");
        int size = Integer.parseInt(words[0]);
        argument(size <= 60);
        int[] to = new int[words[1].equals("stop") ? 0 : words[1].equals("go") ? 1 : 2];
        for (int e = 0; e < to.length; e++) {
            to[e] = Integer.parseInt(words[2 + e]);
            argument(to[e] < blocks.size());
        }
        argument(to.length < 2 || to[0] != to[1]);
        blocks.get(b).size = size;
        int kind = to.length == 0 ? 2 : to.length - 1;
        setEnd(b, kind, to.length == 2 ? Integer.parseInt(words[4]) : 0, to);
        return kind;
    }

    private static int faultOf(String text) {
        for (int length = 1; length <= text.length(); length++) {
            Matcher matcher = TEXT.matcher(text.substring(0, length));
            if (!matcher.matches() && !matcher.hitEnd()) return length - 1;
        }
        return text.length();
    }

    int undo() {
        if (saved.isEmpty()) throw new NoSuchElementException();
        Saved last = saved.pop();
        order = new ArrayList<>(last.order);
        hot = last.hot;
        alignment = last.alignment;
        return saved.size();
    }
}
