/** Sentences of matches: Terms 3 from matches on, promises 12 and 13. */
final class MatchBounds {
    private static final int BAD = -1, NONE = -4;
    private static final int NOT = 0, AND = 1, XOR = 3, NAND = 4;
    private static final int[] FAR = {Integer.MIN_VALUE, Integer.MIN_VALUE + 1, -4, 160, 1 << 16, Integer.MAX_VALUE};

    private final Sentences s;

    MatchBounds(Sentences s) {
        this.s = s;
    }

    void all() {
        formsLie();
        rootsInside();
        partsInEitherOrder();
        oneLetterOnTheSame();
        exchangedSecond();
        leftPartFirst();
        mostMatches();
        matchesPromise();
        matchesRefused();
        matchPromise();
        matchNone();
        matchRefused();
    }

    /** Vertices 4 = N(0 1), 5 = N(2 3), 6 = N(4 5), which is output 0. */
    private static CellCover twoLevels() {
        CellCover x = Checks.withInputs(4);
        x.gate(NAND, 0, 1, 0);
        x.gate(NAND, 2, 3, 0);
        x.gate(NAND, 4, 5, 0);
        x.output(6);
        return x;
    }

    /** The matches of a cell at a vertex are these rows, each of the pins from a on. */
    private void areMatches(CellCover x, int cell, int v, int[]... rows) {
        s.due("matches(" + cell + ", " + v + ")", x.matches(cell, v), rows.length);
        for (int k = 0; k < rows.length; k++) {
            for (int pin = 0; pin < rows[k].length; pin++) {
                s.due("match(" + cell + ", " + v + ", " + k + ", " + pin + ")", x.match(cell, v, k, pin), rows[k][pin]);
            }
        }
        s.due("match behind the last", x.match(cell, v, rows.length, 0), NONE);
    }

    private void formsLie() {
        s.says("Terms 3: A MATCH of a CELL at a VERTEX that LIVES: the TREE's N and I lie on N and I, beginning with that VERTEX;");
        CellCover x = Checks.withInputs(2);
        x.gate(AND, 0, 1, 0);
        x.gate(NOT, 1, 0, 0);
        x.output(2);
        int inverse = Checks.cellOf(x, "1 1Ia");
        int nand = Checks.cellOf(x, "1 1Nab");
        int and = Checks.cellOf(x, "1 1INab");
        int two = Checks.cellOf(x, "1 1IIa");
        int other = Checks.cellOf(x, "1 1NIab");
        int deep = Checks.cellOf(x, "1 1INIab");
        areMatches(x, inverse, 3, new int[] {2});
        areMatches(x, nand, 2, new int[] {0, 1}, new int[] {1, 0});
        areMatches(x, and, 3, new int[] {0, 1}, new int[] {1, 0});
        s.due("I on N", x.matches(inverse, 2), 0);
        s.due("N on I", x.matches(nand, 3), 0);
        s.due("I on an input", x.matches(inverse, 0), 0);
        s.due("N on an input", x.matches(nand, 0), 0);
        s.due("the second I on N", x.matches(two, 3), 0);
        s.due("I inside on an input", x.matches(other, 2), 0);
        s.due("I inside on an input, deeper", x.matches(deep, 3), 0);
        s.due("a vertex that does not live", x.matches(inverse, 4), BAD);
        x.output(3);
        s.due("it lives now", x.matches(inverse, 4), 1);
    }

    private void rootsInside() {
        s.says("Terms 3: each that lies there but the first lies on none that is a ROOT;");
        CellCover x = Checks.withInputs(2);
        x.gate(NAND, 0, 1, 0);
        x.gate(NOT, 2, 0, 0);
        x.output(3);
        int and = Checks.cellOf(x, "1 1INab");
        int inverse = Checks.cellOf(x, "1 1Ia");
        s.due("no root inside", x.matches(and, 3), 2);
        x.output(2);
        s.due("a root inside", x.matches(and, 3), 0);
        s.due("a root beneath a pin", x.match(inverse, 3, 0, 0), 2);
        x.undo();
        s.due("no root inside again", x.matches(and, 3), 2);
        x.gate(NAND, 2, 0, 0);
        s.due("a use that does not live is none", x.matches(and, 3), 2);
        x.output(4);
        s.due("two uses: a root", x.matches(and, 3), 0);
        s.due("the first may be one", x.vertex(3, 4) * 10 + x.matches(inverse, 3), 11);
    }

    private void partsInEitherOrder() {
        s.says("Terms 3: the two parts of an N lie on its parts, in either order;");
        CellCover x = Checks.withInputs(2);
        x.gate(NOT, 0, 0, 0);
        x.gate(NAND, 1, 2, 0);
        x.output(3);
        // 2 = I(0), 3 = N(1 2).
        areMatches(x, Checks.cellOf(x, "1 1NIab"), 3, new int[] {0, 1});
        areMatches(x, Checks.cellOf(x, "1 1NaIb"), 3, new int[] {1, 0});
        areMatches(x, Checks.cellOf(x, "1 1Nab"), 3, new int[] {1, 2}, new int[] {2, 1});
        areMatches(x, Checks.cellOf(x, "1 1NIaIb"), 3);
    }

    private void oneLetterOnTheSame() {
        s.says("Terms 3: PINS lie on VERTICES, all of one letter on the same.");
        CellCover x = Checks.withInputs(2);
        x.gate(NAND, 0, 0, 0);
        x.gate(XOR, 0, 1, 0);
        x.output(2);
        x.output(3);
        // 2 = N(0 0); 3 = N(0 1), a root; 4 = N(0 3), 5 = N(1 3), 6 = N(4 5).
        int same = Checks.cellOf(x, "1 1Naa");
        int two = Checks.cellOf(x, "1 1Nab");
        areMatches(x, same, 2, new int[] {0}, new int[] {0});
        areMatches(x, same, 3);
        areMatches(x, two, 2, new int[] {0, 0}, new int[] {0, 0});
        areMatches(x, two, 3, new int[] {0, 1}, new int[] {1, 0});
        areMatches(x, Checks.cellOf(x, "1 1NNabNcb"), 6, new int[] {0, 3, 1}, new int[] {1, 3, 0});
        areMatches(x, Checks.cellOf(x, "1 1NNabNab"), 6);
        s.due("two letters need not lie apart", x.match(two, 2, 0, 0) - x.match(two, 2, 0, 1), 0);
    }

    private void exchangedSecond() {
        s.says("Terms 3: MATCHES of a CELL are in this order: of an N first all with the parts as they are, then all with them exchanged (also where both parts are the same);");
        CellCover x = twoLevels();
        areMatches(x, Checks.cellOf(x, "1 1Nab"), 6, new int[] {4, 5}, new int[] {5, 4});
        areMatches(x, Checks.cellOf(x, "1 1Nba"), 6, new int[] {5, 4}, new int[] {4, 5});
        areMatches(x, Checks.cellOf(x, "1 1NNabc"), 6,
            new int[] {0, 1, 5}, new int[] {1, 0, 5}, new int[] {2, 3, 4}, new int[] {3, 2, 4});
        CellCover y = Checks.withInputs(1);
        y.gate(AND, 0, 0, 0);
        y.output(1);
        areMatches(y, Checks.cellOf(y, "1 1INab"), 2, new int[] {0, 0}, new int[] {0, 0});
    }

    private void leftPartFirst() {
        s.says("Terms 3: of these, those with the first MATCH of its left part, then the second one, ..; with each the right part's in order. (A PIN has one.)");
        CellCover x = twoLevels();
        areMatches(x, Checks.cellOf(x, "1 1NNabNcd"), 6,
            new int[] {0, 1, 2, 3, NONE, NONE}, new int[] {0, 1, 3, 2}, new int[] {1, 0, 2, 3}, new int[] {1, 0, 3, 2},
            new int[] {2, 3, 0, 1}, new int[] {2, 3, 1, 0}, new int[] {3, 2, 0, 1}, new int[] {3, 2, 1, 0});
        areMatches(x, Checks.cellOf(x, "1 1NaNbc"), 6,
            new int[] {4, 2, 3}, new int[] {4, 3, 2}, new int[] {5, 0, 1}, new int[] {5, 1, 0});
    }

    /** A full tree of 31 nands over 6 inputs, 6 .. 36 from the leaves on, with its inverse, 37, as the output. */
    private static CellCover fiveLevels() {
        CellCover x = Checks.withInputs(6);
        for (int a = 0; a < 6; a++) {
            for (int b = a + 1; b < 6; b++) {
                x.gate(NAND, a, b, 0);
            }
        }
        x.gate(NAND, 5, 5, 0);
        for (int node = 6; node < 36; node += 2) {
            x.gate(NAND, node, node + 1, 0);
        }
        x.gate(NOT, 36, 0, 0);
        x.output(37);
        return x;
    }

    /** No tree of 12 has more than five Ns: there are 32 ways at the most. */
    private void mostMatches() {
        s.says("Terms 3: those with the first MATCH of its left part, then the second one, ..;");
        CellCover x = fiveLevels();
        int comb = Checks.cellOf(x, "1 1INNNNNabcdef");
        s.due("five Ns, each in two ways", x.matches(comb, 37), 32);
        int[] first = {0, 1, 7, 23, 31, 35};
        int[] second = {1, 0, 7, 23, 31, 35};
        int[] third = {0, 2, 6, 23, 31, 35};
        int[] middle = {1, 5, 15, 27, 33, 34};
        int[] last = {5, 5, 20, 28, 32, 34};
        for (int pin = 0; pin < 6; pin++) {
            s.due("the first, pin " + pin, x.match(comb, 37, 0, pin), first[pin]);
            s.due("the second, pin " + pin, x.match(comb, 37, 1, pin), second[pin]);
            s.due("the third, pin " + pin, x.match(comb, 37, 2, pin), third[pin]);
            s.due("the 17th, pin " + pin, x.match(comb, 37, 16, pin), middle[pin]);
            s.due("the last, pin " + pin, x.match(comb, 37, 31, pin), last[pin]);
            s.due("behind it, pin " + pin, x.match(comb, 37, 32, pin), NONE);
        }
        s.says("Terms 3: with each the right part's in order.");
        CellCover y = Checks.withInputs(6);
        y.gate(NAND, 0, 1, 0);
        y.gate(NAND, 2, 3, 0);
        y.gate(NAND, 6, 7, 0);
        y.gate(NAND, 4, 5, 0);
        y.gate(NAND, 8, 9, 0);
        y.output(10);
        int tree = Checks.cellOf(y, "1 1NNNabNcdNef");
        s.due("the left part in 8 ways, the right one in 2", y.matches(tree, 10), 16);
        int[][] rows = {{0, 1, 2, 3, 4, 5}, {0, 1, 2, 3, 5, 4}, {0, 1, 3, 2, 4, 5}, {3, 2, 1, 0, 5, 4}};
        int[] at = {0, 1, 2, 15};
        for (int i = 0; i < 4; i++) {
            for (int pin = 0; pin < 6; pin++) {
                s.due("match " + at[i] + ", pin " + pin, y.match(tree, 10, at[i], pin), rows[i][pin]);
            }
        }
        s.due("behind the last", y.match(tree, 10, 16, 0), NONE);
    }

    private void matchesPromise() {
        s.says("Promise 12: How many MATCHES a CELL has at a VERTEX.");
        CellCover x = twoLevels();
        int c = Checks.cellOf(x, "1 1NNabc");
        s.due("none", x.matches(c, 4), 0);
        s.due("none at an input", x.matches(c, 0), 0);
        s.due("four", x.matches(c, 6), 4);
        s.due("asked again", x.matches(c, 6), 4);
        x.output(4);
        s.due("two, one part being a root", x.matches(c, 6), 2);
        x.output(5);
        s.due("none, both being roots", x.matches(c, 6), 0);
    }

    private void matchesRefused() {
        s.says("Promise 12: BAD: also it is dropped, or the VERTEX does not LIVE.");
        CellCover x = twoLevels();
        s.due("there are no cells", x.matches(0, 6), BAD);
        int c = Checks.cellOf(x, "1 1Nab");
        int gone = Checks.cellOf(x, "1 1Nab");
        x.gate(NOT, 0, 0, 0);
        s.due("cell 1", x.matches(gone, 6), 2);
        x.drop(gone);
        s.due("cell 1, dropped", x.matches(gone, 6), BAD);
        s.due("cell 2", x.matches(2, 6), BAD);
        s.due("cell -1", x.matches(-1, 6), BAD);
        s.due("vertex 6", x.matches(c, 6), 2);
        s.due("vertex 7, which does not live", x.matches(c, 7), BAD);
        s.due("vertex 8, which is not there", x.matches(c, 8), BAD);
        s.due("vertex -1", x.matches(c, -1), BAD);
        for (int far : FAR) {
            s.due("cell " + far, x.matches(far, 6), BAD);
            s.due("vertex " + far, x.matches(c, far), BAD);
        }
        x.output(7);
        s.due("vertex 7, which lives", x.matches(c, 7), 0);
        x.undo();
        x.undo();
        s.due("cell 1, brought back by undo()", x.matches(gone, 6), 2);
    }

    private void matchPromise() {
        s.says("Promise 13: On which VERTEX a PIN (0 a .. 5 f) lies in the k-th (from 0) of these;");
        CellCover x = twoLevels();
        int c = Checks.cellOf(x, "1 1NaNfb");
        s.due("k 0, a", x.match(c, 6, 0, 0), 4);
        s.due("k 0, b", x.match(c, 6, 0, 1), 3);
        s.due("k 0, f", x.match(c, 6, 0, 5), 2);
        s.due("k 3, a", x.match(c, 6, 3, 0), 5);
        s.due("k 3, b", x.match(c, 6, 3, 1), 0);
        s.due("k 3, f", x.match(c, 6, 3, 5), 1);
        s.due("k 1, f", x.match(c, 6, 1, 5), 3);
        s.due("k 2, f", x.match(c, 6, 2, 5), 0);
    }

    private void matchNone() {
        s.says("Promise 13: NONE: not so many, or it has no such PIN.");
        CellCover x = twoLevels();
        int c = Checks.cellOf(x, "1 1NaNfb");
        s.due("k 3", x.match(c, 6, 3, 0), 5);
        s.due("k 4", x.match(c, 6, 4, 0), NONE);
        s.due("k 4096", x.match(c, 6, 4096, 0), NONE);
        s.due("k greatest", x.match(c, 6, Integer.MAX_VALUE, 0), NONE);
        s.due("k 0 where there are none", x.match(c, 4, 0, 0), NONE);
        s.due("k 0 at an input", x.match(c, 0, 0, 0), NONE);
        // No wrong k is told of as BAD: there is no such match.
        s.due("k 0", x.match(c, 6, 0, 0), 4);
        s.due("k -1", x.match(c, 6, -1, 0), NONE);
        s.due("k least", x.match(c, 6, Integer.MIN_VALUE, 0), NONE);
        for (int pin = 2; pin < 5; pin++) {
            s.due("no pin " + pin, x.match(c, 6, 0, pin), NONE);
            s.due("neither the match nor pin " + pin, x.match(c, 6, 4, pin), NONE);
        }
    }

    private void matchRefused() {
        s.says("Promise 13: BAD likewise, and the PIN.");
        CellCover x = twoLevels();
        s.due("there are no cells", x.match(0, 6, 0, 0), BAD);
        int c = Checks.cellOf(x, "1 1NaNfb");
        int gone = Checks.cellOf(x, "1 1Nab");
        x.gate(NOT, 0, 0, 0);
        s.due("cell 1", x.match(gone, 6, 0, 0), 4);
        x.drop(gone);
        s.due("cell 1, dropped", x.match(gone, 6, 0, 0), BAD);
        s.due("cell 2", x.match(2, 6, 0, 0), BAD);
        s.due("cell -1", x.match(-1, 6, 0, 0), BAD);
        s.due("vertex 7, which does not live", x.match(c, 7, 0, 0), BAD);
        s.due("vertex 8, which is not there", x.match(c, 8, 0, 0), BAD);
        s.due("vertex -1", x.match(c, -1, 0, 0), BAD);
        s.due("pin -1", x.match(c, 6, 0, -1), BAD);
        s.due("pin 0", x.match(c, 6, 0, 0), 4);
        s.due("pin 5", x.match(c, 6, 0, 5), 2);
        s.due("pin 6", x.match(c, 6, 0, 6), BAD);
        s.due("BAD is ahead of NONE: pin 6", x.match(c, 6, 4, 6), BAD);
        s.due("BAD is ahead of NONE: the cell", x.match(gone, 6, 4, 0), BAD);
        s.due("BAD is ahead of NONE: the vertex", x.match(c, 7, 4, 0), BAD);
        for (int far : FAR) {
            s.due("cell " + far, x.match(far, 6, 0, 0), BAD);
            s.due("vertex " + far, x.match(c, far, 0, 0), BAD);
            s.due("pin " + far, x.match(c, 6, 0, far), BAD);
        }
    }
}
