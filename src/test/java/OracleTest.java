import java.util.ArrayList;
import java.util.List;
import java.util.Random;

/**
 * Long runs of calls, drawn from fixed seeds, on the class and on SlowCover:
 * all answers have to be the same. Run with a number to set how many runs.
 */
public final class OracleTest {
    private static final String[] CELLS = {
        "1 1Ia", "2 1Nab", "3 2INab", "3 2NIaIb", "4 2INIaIb", "3 3NaINbc", "5 1NINabc", "4 2NNabNcd",
        "6 2NNabNIac", "5 5IIa", "2 0Naa", "4 4NaIa", "7 3NNaNabNbNab", "9 9NINabINcd", "9 1INNabNcd",
        "8 2NIaINbc", "1 0NNabc", "3 1NINaINbINcd", "2 2NaINbINcINde", "7 7NNaNbcNdNef", "6 1INaINbIc",
        "3 2IIIa", "10 3NINIaIbc", "999 99Iab", "001 00 N a b ", " 2 02N bIa",
    };
    private static final int[] WILD = {
        Integer.MIN_VALUE, -100, -5, -4, -3, -2, -1, 0, 1, 2, 5, 6, 7, 8, 9, 19, 20, 21, 39, 40, 41, 63, 64,
        159, 160, 161, 1000, Integer.MAX_VALUE,
    };
    // These use each part once: what they make is not cut.
    private static final int[] TREE_KINDS = {0, 1, 1, 2, 4, 4, 5};
    private static final String BYTES = "0123456789NIabcdefg NIab 12A\0\u00ff\t";

    private final Random random;
    private final CellCover x = new CellCover();
    private final SlowCover y = new SlowCover();
    private final List<String> calls = new ArrayList<>();
    // Which nodes are parts of gates; in a run of trees, the others are taken first.
    private final boolean[] used = new boolean[40];
    private final boolean ofTrees;
    private boolean wrong = false;

    private OracleTest(int seed) {
        random = new Random(seed);
        ofTrees = seed % 3 == 0;
    }

    private void same(String call, long got, long want) {
        calls.add(call + " = " + want);
        if (got != want) {
            wrong = true;
            System.out.println(call + " answered " + got + ", due is " + want);
        }
    }

    private boolean chance(int percent) {
        return random.nextInt(100) < percent;
    }

    /** Mostly a number below the bound, at times any other. */
    private int number(int bound) {
        if (chance(6)) {
            return WILD[random.nextInt(WILD.length)];
        }
        return random.nextInt(Math.max(1, bound + (chance(5) ? 1 : 0)));
    }

    /** Newer nodes more often: nets get deep. */
    private int node() {
        int nodes = x.count(0);
        List<Integer> free = freeNodes();
        if (ofTrees && !free.isEmpty() && chance(90)) {
            return free.get(random.nextInt(free.size()));
        }
        return chance(50) ? number(nodes) : nodes - 1 - number(Math.min(nodes, 4));
    }

    private List<Integer> freeNodes() {
        List<Integer> free = new ArrayList<>();
        for (int n = 0; n < x.count(0); n++) {
            if (!used[n]) {
                free.add(n);
            }
        }
        return free;
    }

    /** A part of a gate: from here on it is not free. */
    private int part() {
        int node = node();
        if (node >= 0 && node < used.length) {
            used[node] = true;
        }
        return node;
    }

    private String tree(int depth) {
        int draw = random.nextInt(10);
        if (depth == 0 || (draw < 4 && depth < 4)) {
            return String.valueOf((char) ('a' + random.nextInt(chance(30) ? 2 : 6)));
        }
        return draw < 7 ? "N" + tree(depth - 1) + tree(depth - 1) : "I" + tree(depth - 1);
    }

    private String spaced(String text) {
        StringBuilder all = new StringBuilder();
        for (char c : text.toCharArray()) {
            all.append(chance(10) ? " " : "").append(c);
        }
        return all + (chance(20) ? " " : "");
    }

    /** Mostly a small number; at times one near or beyond its bounds, or with 0s ahead. */
    private String digits(int least) {
        int worth = chance(90) ? least + random.nextInt(9) : random.nextInt(1200);
        return (chance(10) ? "000".substring(random.nextInt(3)) : "") + worth;
    }

    private String text() {
        int draw = random.nextInt(100);
        if (draw < 55) {
            return CELLS[random.nextInt(CELLS.length)];
        }
        String made = digits(1) + " " + digits(0) + spaced(tree(1 + random.nextInt(4)));
        if (draw < 85 || made.isEmpty()) {
            return made;
        }
        int at = random.nextInt(made.length());
        char b = BYTES.charAt(random.nextInt(BYTES.length()));
        String rest = made.substring(at);
        return made.substring(0, at) + b + (chance(50) ? rest : rest.substring(1));
    }

    private void type(long w, int n) {
        same("type(" + w + "L, " + n + ")", x.type(w, n), y.type(w, n));
    }

    private void tellCell() {
        String text = text();
        for (int from = 0; from < text.length(); from += 8) {
            String piece = text.substring(from, Math.min(text.length(), from + 8));
            type(Checks.packed(piece), piece.length());
        }
        same("cell()", x.cell(), y.cell());
    }

    private void input() {
        same("input()", x.input(), y.input());
        freeLatest();
    }

    private void freeLatest() {
        int latest = x.count(0) - 1;
        if (latest >= 0) {
            used[latest] = false;
        }
    }

    private void gate() {
        int kind = ofTrees && chance(90) ? TREE_KINDS[random.nextInt(TREE_KINDS.length)] : number(7);
        int a = part();
        int b = kind == 0 ? node() : part();
        int c = kind == 6 ? part() : node();
        same("gate(" + kind + ", " + a + ", " + b + ", " + c + ")", x.gate(kind, a, b, c), y.gate(kind, a, b, c));
        freeLatest();
    }

    private void change() {
        int draw = random.nextInt(100);
        if (draw < 15 || (ofTrees && draw < 50 && freeNodes().size() < 2)) {
            input();
        } else if (draw < 50) {
            gate();
        } else if (draw < 60) {
            int node = node();
            same("output(" + node + ")", x.output(node), y.output(node));
        } else if (draw < 80) {
            tellCell();
        } else if (draw < 84) {
            int cell = number(x.count(6));
            same("drop(" + cell + ")", x.drop(cell), y.drop(cell));
        } else if (draw < 90) {
            same("undo()", x.undo(), y.undo());
        } else if (draw < 92) {
            type(random.nextLong(), number(9));
        } else {
            int how = chance(95) ? random.nextInt(2) : number(3);
            same("cover(" + how + ")", x.cover(how), y.cover(how));
        }
    }

    private void ask() {
        int v = number(x.count(3));
        int cell = number(x.count(6) + 1);
        long bits = random.nextLong();
        switch (random.nextInt(16)) {
            case 0 -> same("fault()", x.fault(), y.fault());
            case 1 -> {
                int node = node();
                same("vertexOf(" + node + ")", x.vertexOf(node), y.vertexOf(node));
            }
            case 2 -> {
                int what = number(6);
                same("vertex(" + v + ", " + what + ")", x.vertex(v, what), y.vertex(v, what));
            }
            case 3 -> same("matches(" + cell + ", " + v + ")", x.matches(cell, v), y.matches(cell, v));
            case 4, 5 -> {
                int k = number(4);
                int pin = number(6);
                same("match(" + cell + ", " + v + ", " + k + ", " + pin + ")",
                    x.match(cell, v, k, pin), y.match(cell, v, k, pin));
            }
            case 6, 7 -> {
                int what = number(9);
                same("best(" + v + ", " + what + ")", x.best(v, what), y.best(v, what));
            }
            case 8, 9 -> {
                int i = number(Math.max(3, x.count(8)));
                int what = number(8);
                same("instance(" + i + ", " + what + ")", x.instance(i, what), y.instance(i, what));
            }
            case 10 -> {
                int o = number(x.count(2));
                same("area()", x.area(), y.area());
                same("arrival(" + o + ")", x.arrival(o), y.arrival(o));
            }
            case 11 -> same("worth(" + cell + ")", x.worth(cell), y.worth(cell));
            case 12 -> {
                same("run(" + bits + "L)", x.run(bits), y.run(bits));
                same("mapped(" + bits + "L)", x.mapped(bits), y.mapped(bits));
                if (x.mapped(bits) != CellCover.NO) {
                    same("mapped() beside run()", x.mapped(bits), x.run(bits));
                }
            }
            case 13 -> {
                int what = number(5);
                int to = number(64);
                same("about(" + cell + ", " + what + ", " + to + ")", x.about(cell, what, to), y.about(cell, what, to));
            }
            case 14 -> {
                int what = number(9);
                same("count(" + what + ")", x.count(what), y.count(what));
            }
            default -> same("digest()", x.digest(), y.digest());
        }
    }

    /** All that is told of a cover, once. */
    private void askAll() {
        int how = random.nextInt(2);
        same("cover(" + how + ")", x.cover(how), y.cover(how));
        for (int v = 0; v < x.count(3); v++) {
            for (int what = 0; what < 9; what++) {
                same("best(" + v + ", " + what + ")", x.best(v, what), y.best(v, what));
            }
        }
        for (int i = 0; i <= Math.max(0, x.count(8)); i++) {
            for (int what = 0; what < 8; what++) {
                same("instance(" + i + ", " + what + ")", x.instance(i, what), y.instance(i, what));
            }
        }
        for (int cell = 0; cell < 20; cell++) {
            same("worth(" + cell + ")", x.worth(cell), y.worth(cell));
            for (int v = 0; v < x.count(3); v++) {
                same("matches(" + cell + ", " + v + ")", x.matches(cell, v), y.matches(cell, v));
            }
        }
        same("area()", x.area(), y.area());
    }

    private boolean run() {
        int asking = 20 + random.nextInt(60);
        int basics = random.nextInt(4);
        for (int i = 0; i < basics; i++) {
            for (String text : new String[] {CELLS[i]}) {
                type(Checks.packed(text), text.length());
                same("cell()", x.cell(), y.cell());
            }
        }
        for (int i = 0; i < 450 && !wrong; i++) {
            if (chance(asking)) {
                ask();
            } else {
                change();
            }
        }
        if (!wrong) {
            askAll();
        }
        if (wrong) {
            System.out.println(String.join("\n", calls.subList(Math.max(0, calls.size() - 400), calls.size())));
        }
        return !wrong;
    }

    public static void main(String[] args) {
        int runs = args.length > 0 ? Integer.parseInt(args[0]) : 300;
        int[] covers = new int[3];
        for (int seed = 1; seed <= runs; seed++) {
            OracleTest one = new OracleTest(seed);
            if (!one.run()) {
                System.out.println("seed " + seed + " is wrong");
                System.exit(1);
            }
            covers[one.x.area() >= 0 ? one.x.area() > 0 ? 0 : 1 : 2]++;
        }
        System.out.println(runs + " runs as due; at their ends " + covers[0] + " covers, " + covers[1]
            + " empty ones, " + covers[2] + " without");
    }
}
