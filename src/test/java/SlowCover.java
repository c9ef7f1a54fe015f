import java.util.ArrayList;
import java.util.HashMap;
import java.util.List;
import java.util.Map;
import java.util.TreeSet;

/**
 * The document once more, as plainly as it can be written: the list of what was
 * done is kept, and each answer is worked out from it anew. It shares no code
 * with the class, and its trees are walked by recursion.
 */
final class SlowCover {
    private static final int BAD = -1, NO = -2, FULL = -3, NONE = -4;

    private record Step(String what, int[] numbers, Cell cell) { }

    private record Tree(char symbol, Tree left, Tree right) {
        int size() {
            return 1 + (left == null ? 0 : left.size()) + (right == null ? 0 : right.size());
        }

        void pinsInto(TreeSet<Integer> pins) {
            if (left == null) {
                pins.add(symbol - 'a');
                return;
            }
            left.pinsInto(pins);
            if (right != null) {
                right.pinsInto(pins);
            }
        }

        boolean value(Map<Integer, Boolean> pins) {
            if (symbol == 'I') {
                return !left.value(pins);
            }
            if (symbol == 'N') {
                return !(left.value(pins) && right.value(pins));
            }
            return pins.getOrDefault(symbol - 'a', false);
        }
    }

    private record Cell(int area, int delay, Tree tree) { }

    private record Vertex(char form, int first, int second) { }

    private static final class Fault extends RuntimeException {
        private static final long serialVersionUID = 1;
        final int number;
        final int place;

        Fault(int number, int place) {
            this.number = number;
            this.place = place;
        }
    }

    /** The best match of a vertex. */
    private record Choice(int area, int arrival, int cell, Map<Integer, Integer> pins) { }

    private final List<Step> steps = new ArrayList<>();
    private final List<Integer> tape = new ArrayList<>();
    private int latestFault = 0;
    private int how = NONE;

    // Worked out from the steps.
    private final List<Step> nodes = new ArrayList<>();
    private final List<Integer> nodeVertex = new ArrayList<>();
    private final List<Vertex> vertices = new ArrayList<>();
    private final List<Integer> outputs = new ArrayList<>();
    private final List<Cell> cells = new ArrayList<>();
    private final TreeSet<Integer> dropped = new TreeSet<>();
    private final TreeSet<Integer> living = new TreeSet<>();
    private final TreeSet<Integer> roots = new TreeSet<>();
    // Only so that the tests end in time: what was chosen since the latest change.
    private final Map<Integer, Map<Integer, Choice>> chosen = new HashMap<>();

    private void redo() {
        chosen.clear();
        nodes.clear();
        nodeVertex.clear();
        vertices.clear();
        outputs.clear();
        cells.clear();
        dropped.clear();
        for (Step s : steps) {
            switch (s.what) {
                case "input", "gate" -> addNode(s);
                case "output" -> outputs.add(s.numbers[0]);
                case "cell" -> cells.add(s.cell);
                default -> dropped.add(s.numbers[0]);
            }
        }
        living.clear();
        for (int node : outputs) {
            enliven(nodeVertex.get(node));
        }
        roots.clear();
        for (int v : living) {
            if (vertices.get(v).form != '-' && (outputsOf(v) > 0 || uses(v) != 1)) {
                roots.add(v);
            }
        }
    }

    private void enliven(int v) {
        if (v == NONE || !living.add(v)) {
            return;
        }
        enliven(vertices.get(v).first);
        enliven(vertices.get(v).second);
    }

    private void addNode(Step s) {
        nodes.add(s);
        if (s.what.equals("input")) {
            vertices.add(new Vertex('-', NONE, NONE));
            nodeVertex.add(vertices.size() - 1);
            return;
        }
        int kind = s.numbers[0];
        int a = nodeVertex.get(s.numbers[1]);
        int b = kind == 0 ? NONE : nodeVertex.get(s.numbers[2]);
        int c = kind == 6 ? nodeVertex.get(s.numbers[3]) : NONE;
        nodeVertex.add(switch (kind) {
            case 0 -> invert(a);
            case 1 -> invert(nand(a, b));
            case 2 -> nand(invert(a), invert(b));
            case 3 -> xor(a, b);
            case 4 -> nand(a, b);
            case 5 -> invert(nand(invert(a), invert(b)));
            default -> nand(nand(a, b), nand(invert(a), c));
        });
    }

    private int xor(int a, int b) {
        int n = nand(a, b);
        return nand(nand(a, n), nand(b, n));
    }

    private int invert(int v) {
        if (vertices.get(v).form == 'I') {
            return vertices.get(v).first;
        }
        int there = vertices.indexOf(new Vertex('I', v, NONE));
        if (there >= 0) {
            return there;
        }
        vertices.add(new Vertex('I', v, NONE));
        return vertices.size() - 1;
    }

    private int nand(int a, int b) {
        int there = Math.max(vertices.indexOf(new Vertex('N', a, b)), vertices.indexOf(new Vertex('N', b, a)));
        if (there >= 0) {
            return there;
        }
        vertices.add(new Vertex('N', a, b));
        return vertices.size() - 1;
    }

    private boolean isNode(int n) {
        return n >= 0 && n < nodes.size();
    }

    private boolean isVertex(int v) {
        return v >= 0 && v < vertices.size();
    }

    private boolean isCell(int c) {
        return c >= 0 && c < cells.size() && !dropped.contains(c);
    }

    private int outputsOf(int v) {
        int n = 0;
        for (int node : outputs) {
            n += nodeVertex.get(node) == v ? 1 : 0;
        }
        return n;
    }

    private int uses(int v) {
        int n = outputsOf(v);
        for (int u : living) {
            n += vertices.get(u).first == v ? 1 : 0;
            n += vertices.get(u).second == v ? 1 : 0;
        }
        return n;
    }

    private boolean isRoot(int v) {
        return roots.contains(v);
    }

    private int done(int answer, String what, Cell cell, int... numbers) {
        steps.add(new Step(what, numbers, cell));
        how = NONE;
        redo();
        return answer;
    }

    int input() {
        return nodes.size() == 40 ? FULL : done(nodes.size(), "input", null);
    }

    int gate(int kind, int a, int b, int c) {
        if (kind < 0 || kind > 6 || !isNode(a) || (kind > 0 && !isNode(b)) || (kind == 6 && !isNode(c))) {
            return BAD;
        }
        return nodes.size() == 40 ? FULL : done(nodes.size(), "gate", null, kind, a, b, c);
    }

    int output(int node) {
        if (!isNode(node)) {
            return BAD;
        }
        return outputs.size() == 8 ? FULL : done(outputs.size(), "output", null, node);
    }

    int type(long w, int n) {
        if (n < 1 || n > 8) {
            return BAD;
        }
        if (tape.size() + n > 60) {
            return FULL;
        }
        for (int i = 8 - n; i < 8; i++) {
            tape.add((int) (w << (8 * i) >>> 56));
        }
        return tape.size();
    }

    int cell() {
        if (cells.size() == 20) {
            return FULL;
        }
        try {
            Cell read = new Reader().read();
            latestFault = 0;
            tape.clear();
            return done(cells.size(), "cell", read);
        } catch (Fault f) {
            latestFault = f.number;
            tape.clear();
            return -100 - f.place;
        }
    }

    private final class Reader {
        private int at = 0;
        private int symbols = 0;

        private int peek() {
            return at < tape.size() ? tape.get(at) : -1;
        }

        private void blanks() {
            while (peek() == ' ') {
                at++;
            }
        }

        Cell read() {
            int area = number(1, 999);
            if (peek() != ' ') {
                throw new Fault(1, at);
            }
            int delay = number(0, 99);
            Tree tree = tree();
            blanks();
            if (peek() != -1) {
                throw new Fault(1, at);
            }
            return new Cell(area, delay, tree);
        }

        private int number(int least, int most) {
            blanks();
            int start = at;
            StringBuilder digits = new StringBuilder();
            while (peek() >= '0' && peek() <= '9') {
                digits.append((char) peek());
                at++;
            }
            if (digits.length() == 0) {
                throw new Fault(1, start);
            }
            int worth = Integer.parseInt(digits.substring(0, Math.min(3, digits.length())));
            if (worth < least || worth > most) {
                throw new Fault(2, start);
            }
            if (digits.length() > 3) {
                throw new Fault(1, start + 3);
            }
            return worth;
        }

        private Tree tree() {
            blanks();
            int c = peek();
            boolean inner = c == 'N' || c == 'I';
            if (!inner && (c < 'a' || c > 'f' || symbols == 0)) {
                throw new Fault(1, at);
            }
            if (symbols == 12) {
                throw new Fault(3, at);
            }
            symbols++;
            at++;
            Tree left = inner ? tree() : null;
            Tree right = c == 'N' ? tree() : null;
            return new Tree((char) c, left, right);
        }
    }

    int fault() {
        return latestFault;
    }

    int drop(int cell) {
        return isCell(cell) ? done(1, "drop", null, cell) : BAD;
    }

    int undo() {
        if (steps.isEmpty()) {
            return NO;
        }
        steps.remove(steps.size() - 1);
        how = NONE;
        redo();
        return steps.size();
    }

    int vertexOf(int node) {
        return isNode(node) ? nodeVertex.get(node) : BAD;
    }

    int vertex(int v, int what) {
        if (!isVertex(v)) {
            return BAD;
        }
        Vertex one = vertices.get(v);
        return switch (what) {
            case 0 -> "-IN".indexOf(one.form);
            case 1 -> one.first;
            case 2 -> one.second;
            case 3 -> uses(v);
            case 4 -> isRoot(v) ? 1 : 0;
            case 5 -> living.contains(v) ? 1 : 0;
            default -> BAD;
        };
    }

    /** All ways in which a tree lies on a vertex, in order. */
    private List<Map<Integer, Integer>> lie(Tree tree, int v, boolean isTop) {
        List<Map<Integer, Integer>> all = new ArrayList<>();
        if (tree.left == null) {
            Map<Integer, Integer> one = new HashMap<>();
            one.put(tree.symbol - 'a', v);
            all.add(one);
            return all;
        }
        Vertex at = vertices.get(v);
        if (at.form != tree.symbol || (!isTop && isRoot(v))) {
            return all;
        }
        if (tree.symbol == 'I') {
            return lie(tree.left, at.first, false);
        }
        join(tree, at.first, at.second, all);
        join(tree, at.second, at.first, all);
        return all;
    }

    private void join(Tree tree, int left, int right, List<Map<Integer, Integer>> all) {
        for (Map<Integer, Integer> l : lie(tree.left, left, false)) {
            for (Map<Integer, Integer> r : lie(tree.right, right, false)) {
                boolean agree = true;
                for (int pin : r.keySet()) {
                    agree &= !l.containsKey(pin) || l.get(pin).equals(r.get(pin));
                }
                if (agree) {
                    Map<Integer, Integer> both = new HashMap<>(l);
                    both.putAll(r);
                    all.add(both);
                }
            }
        }
    }

    int matches(int cell, int v) {
        if (!isCell(cell) || !living.contains(v)) {
            return BAD;
        }
        return lie(cells.get(cell).tree, v, true).size();
    }

    int match(int cell, int v, int k, int pin) {
        if (!isCell(cell) || !living.contains(v) || pin < 0 || pin > 5) {
            return BAD;
        }
        List<Map<Integer, Integer>> all = lie(cells.get(cell).tree, v, true);
        return k < 0 || k >= all.size() ? NONE : all.get(k).getOrDefault(pin, NONE);
    }

    private Map<Integer, Choice> choices(int manner, int without) {
        return chosen.computeIfAbsent(manner * 100 + without, key -> choose(manner, without));
    }

    private Map<Integer, Choice> choose(int manner, int without) {
        Map<Integer, Choice> best = new HashMap<>();
        for (int v : living) {
            if (vertices.get(v).form == '-') {
                best.put(v, new Choice(0, 0, NONE, new HashMap<>()));
                continue;
            }
            for (int c = 0; c < cells.size(); c++) {
                if (!isCell(c) || c == without) {
                    continue;
                }
                for (Map<Integer, Integer> pins : lie(cells.get(c).tree, v, true)) {
                    Choice now = weigh(c, pins, best);
                    if (now != null && (!best.containsKey(v) || better(manner, now, best.get(v)))) {
                        best.put(v, now);
                    }
                }
            }
        }
        return best;
    }

    private Choice weigh(int c, Map<Integer, Integer> pins, Map<Integer, Choice> best) {
        int area = cells.get(c).area;
        int late = 0;
        for (int u : pins.values()) {
            if (!best.containsKey(u)) {
                return null;
            }
            area += isRoot(u) ? 0 : best.get(u).area;
            late = Math.max(late, best.get(u).arrival);
        }
        return new Choice(area, cells.get(c).delay + late, c, pins);
    }

    private static boolean better(int manner, Choice a, Choice b) {
        long left = manner == 0 ? a.area * 1000000L + a.arrival : a.arrival * 1000000L + a.area;
        long right = manner == 0 ? b.area * 1000000L + b.arrival : b.arrival * 1000000L + b.area;
        return left < right;
    }

    /** The least root without a match, or NONE. */
    private int bare(Map<Integer, Choice> best) {
        for (int v : living) {
            if (isRoot(v) && !best.containsKey(v)) {
                return v;
            }
        }
        return NONE;
    }

    private List<Integer> instances(Map<Integer, Choice> best) {
        List<Integer> all = new ArrayList<>();
        for (int v : living) {
            if (isRoot(v)) {
                place(v, best, all);
            }
        }
        return all;
    }

    private void place(int v, Map<Integer, Choice> best, List<Integer> all) {
        all.add(v);
        Map<Integer, Integer> pins = best.get(v).pins;
        for (int p = 0; p < 6; p++) {
            int u = pins.getOrDefault(p, NONE);
            if (u != NONE && vertices.get(u).form != '-' && !isRoot(u) && !all.contains(u)) {
                place(u, best, all);
            }
        }
    }

    private int areaOf(Map<Integer, Choice> best) {
        int area = 0;
        for (int v : instances(best)) {
            area += cells.get(best.get(v).cell).area;
        }
        return area;
    }

    int cover(int manner) {
        if (manner < 0 || manner > 1) {
            return BAD;
        }
        int bare = bare(choices(manner, NONE));
        if (bare != NONE) {
            return -100 - bare;
        }
        how = manner;
        return 0;
    }

    int best(int v, int what) {
        if (!isVertex(v) || what < 0 || what > 8) {
            return BAD;
        }
        if (how == NONE) {
            return NO;
        }
        Choice one = choices(how, NONE).get(v);
        if (one == null) {
            return NONE;
        }
        return switch (what) {
            case 0 -> one.area;
            case 1 -> one.arrival;
            case 2 -> one.cell;
            default -> one.pins.getOrDefault(what - 3, NONE);
        };
    }

    int instance(int i, int what) {
        if (what < 0 || what > 7) {
            return BAD;
        }
        if (how == NONE) {
            return NO;
        }
        Map<Integer, Choice> best = choices(how, NONE);
        List<Integer> all = instances(best);
        if (i < 0 || i >= all.size()) {
            return NONE;
        }
        int v = all.get(i);
        return switch (what) {
            case 0 -> best.get(v).cell;
            case 1 -> v;
            default -> best.get(v).pins.getOrDefault(what - 2, NONE);
        };
    }

    int area() {
        return how == NONE ? NO : areaOf(choices(how, NONE));
    }

    int arrival(int output) {
        if (output < 0 || output >= outputs.size()) {
            return BAD;
        }
        return how == NONE ? NO : choices(how, NONE).get(nodeVertex.get(outputs.get(output))).arrival;
    }

    int worth(int cell) {
        if (!isCell(cell)) {
            return BAD;
        }
        if (how == NONE) {
            return NO;
        }
        Map<Integer, Choice> without = choices(how, cell);
        return bare(without) != NONE ? NONE : areaOf(without) - areaOf(choices(how, NONE));
    }

    int run(long bits) {
        boolean[] value = new boolean[40];
        int input = 0;
        for (int n = 0; n < nodes.size(); n++) {
            Step s = nodes.get(n);
            if (s.what.equals("input")) {
                value[n] = (bits >> input++ & 1) != 0;
                continue;
            }
            boolean a = value[s.numbers[1]];
            boolean b = s.numbers[0] != 0 && value[s.numbers[2]];
            value[n] = switch (s.numbers[0]) {
                case 0 -> !a;
                case 1 -> a && b;
                case 2 -> a || b;
                case 3 -> a != b;
                case 4 -> !(a && b);
                case 5 -> !(a || b);
                default -> a ? b : value[s.numbers[3]];
            };
        }
        int answer = 0;
        for (int o = 0; o < outputs.size(); o++) {
            answer += value[outputs.get(o)] ? 1 << o : 0;
        }
        return answer;
    }

    int mapped(long bits) {
        if (how == NONE) {
            return NO;
        }
        Map<Integer, Boolean> value = new HashMap<>();
        int input = 0;
        for (int v = 0; v < vertices.size(); v++) {
            if (vertices.get(v).form == '-') {
                value.put(v, (bits >> input++ & 1) != 0);
            }
        }
        Map<Integer, Choice> best = choices(how, NONE);
        int answer = 0;
        for (int o = 0; o < outputs.size(); o++) {
            answer += work(nodeVertex.get(outputs.get(o)), best, value) ? 1 << o : 0;
        }
        return answer;
    }

    private boolean work(int v, Map<Integer, Choice> best, Map<Integer, Boolean> value) {
        if (!value.containsKey(v)) {
            Map<Integer, Boolean> pins = new HashMap<>();
            for (Map.Entry<Integer, Integer> pin : best.get(v).pins.entrySet()) {
                pins.put(pin.getKey(), work(pin.getValue(), best, value));
            }
            value.put(v, cells.get(best.get(v).cell).tree.value(pins));
        }
        return value.get(v);
    }

    int about(int cell, int what, int x) {
        if (!isCell(cell) || what < 0 || what > 4 || (what == 4 && (x < 0 || x > 63))) {
            return BAD;
        }
        Cell one = cells.get(cell);
        if (what == 3) {
            TreeSet<Integer> pins = new TreeSet<>();
            one.tree.pinsInto(pins);
            return pins.stream().mapToInt(p -> 1 << p).sum();
        }
        if (what == 4) {
            Map<Integer, Boolean> pins = new HashMap<>();
            for (int p = 0; p < 6; p++) {
                pins.put(p, (x >> p & 1) != 0);
            }
            return one.tree.value(pins) ? 1 : 0;
        }
        return what == 0 ? one.area : what == 1 ? one.delay : one.tree.size();
    }

    int count(int what) {
        return switch (what) {
            case 0 -> nodes.size();
            case 1 -> (int) nodes.stream().filter(s -> s.what.equals("input")).count();
            case 2 -> outputs.size();
            case 3 -> vertices.size();
            case 4 -> living.size();
            case 5 -> (int) living.stream().filter(this::isRoot).count();
            case 6 -> cells.size() - dropped.size();
            case 7 -> tape.size();
            case 8 -> how == NONE ? NO : instances(choices(how, NONE)).size();
            default -> BAD;
        };
    }

    long digest() {
        List<Integer> all = new ArrayList<>();
        for (int v = 0; v < vertices.size(); v++) {
            for (int what = 0; what < 6; what++) {
                all.add(vertex(v, what));
            }
        }
        for (int node : outputs) {
            all.add(nodeVertex.get(node));
        }
        for (int c = 0; c < cells.size(); c++) {
            all.add(dropped.contains(c) ? 0 : 1);
            all.add(cells.get(c).area);
            all.add(cells.get(c).delay);
        }
        long h = 13;
        for (int v : all) {
            h = 31 * h + v;
        }
        return h;
    }
}
