/** Sentences of runs and of what is counted: promises 20 to 24. */
final class AnswerBounds {
    private static final int BAD = -1, NO = -2, NONE = -4;
    private static final int NOT = 0, AND = 1, XOR = 3, NAND = 4, PICK = 6;
    private static final int[] FAR = {Integer.MIN_VALUE, Integer.MIN_VALUE + 1, -4, 64, 1 << 16, Integer.MAX_VALUE};

    private final Sentences s;

    AnswerBounds(Sentences s) {
        this.s = s;
    }

    void all() {
        runPromise();
        mappedPromise();
        mappedNo();
        aboutPromise();
        aboutRefused();
        countPromise();
        countRefused();
        digestOfVertices();
        digestOfOutputs();
        digestOfCells();
        digestWraps();
        lastOf512Calls();
    }

    private void runPromise() {
        s.says("Promise 20: THE NET runs, INPUT i (in order) having bit i of bits: OUTPUTS as bits (0 the lowest).");
        s.due("no outputs", Checks.withInputs(1).run(-1), 0);
        s.due("no nodes", new CellCover().run(-1), 0);
        CellCover x = Checks.withInputs(1);
        x.gate(NOT, 0, 0, 0);
        x.input();
        x.output(2);
        x.output(0);
        x.output(1);
        s.due("input 1 is node 2: bit 1", x.run(2), 1 | 4);
        s.due("input 0 is node 0: bit 0", x.run(1), 2);
        s.due("bit 2 is nobody's", x.run(4), 4);
        s.due("all bits", x.run(-1), 3);
        CellCover y = Checks.withInputs(40);
        int[] nodes = {0, 30, 31, 32, 33, 38, 39, 39};
        for (int node : nodes) {
            y.output(node);
        }
        for (int bit = 0; bit < 64; bit++) {
            int want = 0;
            for (int o = 0; o < 8; o++) {
                want |= nodes[o] == bit ? 1 << o : 0;
            }
            s.due("bit " + bit, y.run(1L << bit), want);
        }
        s.due("all eight outputs", y.run(-1), 255);
        s.due("none", y.run(0), 0);
        s.due("none of the 40", y.run(-1L << 40), 0);
        s.due("all of the 40", y.run(~(-1L << 40)), 255);
        y.undo();
        s.due("seven outputs", y.run(-1), 127);
    }

    private void mappedPromise() {
        s.says("Promise 21: THE MAPPED NET runs, its INSTANCES being worked by their TREES alone: likewise.");
        CellCover x = Checks.withInputs(3);
        x.gate(XOR, 0, 1, 0);
        x.gate(PICK, 3, 2, 0);
        x.gate(NAND, 4, 4, 0);
        int[] outputs = {3, 4, 5, 2, 3, 0, 5, 4};
        for (int node : outputs) {
            x.output(node);
        }
        Checks.cellOf(x, "3 2Ia");
        Checks.cellOf(x, "2 3Nba");
        Checks.cellOf(x, "3 3NNacNcb");
        Checks.cellOf(x, "4 1NNfeNIfd");
        for (int how = 0; how < 2; how++) {
            s.due("cover(" + how + ")", x.cover(how), 0);
            for (int bits = 0; bits < 8; bits++) {
                s.due("mapped(" + bits + ")", x.mapped(bits), x.run(bits));
                s.due("bits of no input", x.mapped(bits | -8L), x.run(bits));
            }
        }
        s.due("a known one", x.mapped(5), 1 | 2 | 8 | 16 | 32 | 128);
        CellCover y = Checks.withInputs(40);
        y.output(39);
        y.output(31);
        y.output(32);
        y.cover(0);
        s.due("bit 39", y.mapped(1L << 39), 1);
        s.due("bit 31", y.mapped(1L << 31), 2);
        s.due("bit 32", y.mapped(1L << 32), 4);
        s.due("bit 40", y.mapped(1L << 40), 0);
        s.due("all", y.mapped(-1), 7);
    }

    private void mappedNo() {
        s.says("Promise 21: NO.");
        CellCover x = Checks.withInputs(1);
        x.gate(NOT, 0, 0, 0);
        x.output(1);
        s.due("no cover yet", x.mapped(0), NO);
        s.due("there is none", x.cover(0), -101);
        s.due("no cover", x.mapped(0), NO);
        Checks.cellOf(x, "1 1Ia");
        x.cover(0);
        s.due("mapped(0)", x.mapped(0), 1);
        s.due("mapped(1)", x.mapped(1), 0);
        x.input();
        s.due("no more", x.mapped(0), NO);
        s.due("run() needs none", x.run(0), 1);
        CellCover none = new CellCover();
        none.cover(0);
        s.due("of nothing", none.mapped(-1), 0);
    }

    private void aboutPromise() {
        s.says("Promise 22: Of a CELL: 0 AREA, 1 DELAY, 2 how many N, I, PINS, 3 which PINS it has, as bits, 4 what it gives if PIN a has bit 0 of x, b bit 1, .. (x is told by 0 .. 63).");
        CellCover x = new CellCover();
        Checks.cellOf(x, "999 99INNNNNabcdef");
        Checks.cellOf(x, "1 0Ia");
        Checks.cellOf(x, "2 1NfIf");
        int[][] want = {{999, 99, 12, 63}, {1, 0, 2, 1}, {2, 1, 4, 32}};
        for (int c = 0; c < 3; c++) {
            for (int what = 0; what < 4; what++) {
                s.due("about(" + c + ", " + what + ", 0)", x.about(c, what, 0), want[c][what]);
            }
        }
        for (int bits = 0; bits < 64; bits++) {
            int chain = bits & 1;
            for (int pin = 1; pin < 6; pin++) {
                chain = 1 - (chain & bits >> pin);
            }
            s.due("about(0, 4, " + bits + ")", x.about(0, 4, bits), 1 - chain);
            s.due("about(1, 4, " + bits + ")", x.about(1, 4, bits), 1 - (bits & 1));
            s.due("about(2, 4, " + bits + ")", x.about(2, 4, bits), 1);
        }
        CellCover all = new CellCover();
        Checks.cellOf(all, "1 1IIIIIIIIIIIf");
        s.due("eleven I, f is 0", all.about(0, 4, 31), 1);
        s.due("eleven I, f is 1", all.about(0, 4, 32), 0);
    }

    private void aboutRefused() {
        s.says("Promise 22: BAD: also it is dropped;");
        CellCover x = new CellCover();
        s.due("there are no cells", x.about(0, 0, 0), BAD);
        Checks.cellOf(x, "7 8Nab");
        Checks.cellOf(x, "5 6Ia");
        for (int what = 0; what <= 4; what++) {
            s.due("cell -1", x.about(-1, what, 0), BAD);
            s.due("cell 2", x.about(2, what, 0), BAD);
        }
        s.due("what -1", x.about(0, -1, 0), BAD);
        s.due("what 4", x.about(0, 4, 3), 0);
        s.due("what 5", x.about(0, 5, 0), BAD);
        s.due("cell 1", x.about(1, 0, 0), 5);
        x.drop(1);
        for (int what = 0; what <= 4; what++) {
            s.due("cell 1, dropped", x.about(1, what, 0), BAD);
        }
        for (int far : FAR) {
            s.due("cell " + far, x.about(far, 0, 0), BAD);
            s.due("what " + far, x.about(0, far, 0), BAD);
        }
        x.undo();
        s.due("cell 1, brought back", x.about(1, 1, 0), 6);
        s.says("Promise 22: x is looked at for 4 alone.");
        s.due("x -1", x.about(0, 4, -1), BAD);
        s.due("x 0", x.about(0, 4, 0), 1);
        s.due("x 63", x.about(0, 4, 63), 0);
        s.due("x 64", x.about(0, 4, 64), BAD);
        int[] want = {7, 8, 3, 3};
        for (int far : FAR) {
            s.due("x " + far, x.about(0, 4, far), BAD);
            for (int what = 0; what < 4; what++) {
                s.due("what " + what + ", x " + far, x.about(0, what, far), want[what]);
            }
        }
    }

    private void countPromise() {
        s.says("Promise 23: How many: 0 NODES, 1 INPUTS, 2 OUTPUTS, 3 VERTICES, 4 those that LIVE, 5 ROOTS, 6 CELLS that are there, 7 bytes of THE TAPE, 8 INSTANCES (NO).");
        CellCover x = Checks.withInputs(2);
        x.gate(AND, 0, 1, 0);
        x.gate(NOT, 2, 0, 0);
        x.gate(NOT, 0, 0, 0);
        x.input();
        x.output(2);
        x.output(2);
        x.output(2);
        Checks.cellOf(x, "1 1Ia");
        Checks.cellOf(x, "1 1Nab");
        Checks.cellOf(x, "1 1Nab");
        x.drop(1);
        Checks.typeText(x, "12345 7");
        int[] want = {6, 3, 3, 6, 4, 1, 2, 7, NO};
        for (int what = 0; what <= 8; what++) {
            s.due("count(" + what + ")", x.count(what), want[what]);
        }
        x.cover(0);
        s.due("count(8)", x.count(8), 2);
        x.drop(0);
        s.due("count(8) behind a (C)", x.count(8), NO);
        x.cover(0);
        s.due("count(8) without a cover", x.count(8), NO);
        CellCover none = new CellCover();
        none.cover(0);
        for (int what = 0; what <= 8; what++) {
            s.due("of nothing, count(" + what + ")", none.count(what), 0);
        }
    }

    private void countRefused() {
        s.says("Promise 23: BAD.");
        CellCover x = Checks.withInputs(1);
        s.due("count(-1)", x.count(-1), BAD);
        s.due("count(0)", x.count(0), 1);
        s.due("count(8)", x.count(8), NO);
        s.due("count(9)", x.count(9), BAD);
        for (int far : FAR) {
            s.due("count(" + far + ")", x.count(far), BAD);
        }
        x.cover(0);
        s.due("count(8)", x.count(8), 0);
        s.due("count(9)", x.count(9), BAD);
    }

    private static long folded(long h, long... values) {
        for (long v : values) {
            h = 31 * h + v;
        }
        return h;
    }

    private void digestOfVertices() {
        s.says("Promise 24: h = 13; then h = 31 h + v for each v: of each VERTEX vertex(.., 0) to (.., 5);");
        CellCover x = new CellCover();
        s.due("of nothing", x.digest(), 13);
        x.input();
        s.due("of an input", x.digest(), folded(13, 0, NONE, NONE, 0, 0, 0));
        x.gate(NOT, 0, 0, 0);
        s.due("of its inverse, too", x.digest(), folded(13, 0, NONE, NONE, 0, 0, 0, 1, 0, NONE, 0, 0, 0));
        x.gate(NOT, 1, 0, 0);
        s.due("of vertices, not of nodes", x.digest(), folded(13, 0, NONE, NONE, 0, 0, 0, 1, 0, NONE, 0, 0, 0));
    }

    private void digestOfOutputs() {
        s.says("Promise 24: of each OUTPUT its NODE's VERTEX;");
        CellCover x = Checks.withInputs(1);
        x.gate(AND, 0, 0, 0);
        // Node 1 is vertex 2.
        x.output(1);
        long vertices = folded(13, 0, NONE, NONE, 2, 0, 1, 2, 0, 0, 1, 0, 1, 1, 1, NONE, 1, 1, 1);
        s.due("one", x.digest(), folded(vertices, 2));
        x.output(0);
        vertices = folded(13, 0, NONE, NONE, 3, 0, 1, 2, 0, 0, 1, 0, 1, 1, 1, NONE, 1, 1, 1);
        s.due("two", x.digest(), folded(vertices, 2, 0));
    }

    private void digestOfCells() {
        s.says("Promise 24: of each CELL from 0 on that came, whether it is there (1, 0), and then AREA, DELAY.");
        CellCover x = new CellCover();
        Checks.cellOf(x, "999 99Ia");
        Checks.cellOf(x, "1 0Nab");
        s.due("both are there", x.digest(), folded(13, 1, 999, 99, 1, 1, 0));
        x.drop(0);
        s.due("one that was dropped", x.digest(), folded(13, 0, 999, 99, 1, 1, 0));
        x.drop(1);
        s.due("both were dropped", x.digest(), folded(13, 0, 999, 99, 0, 1, 0));
        x.undo();
        x.undo();
        Checks.cellOf(x, "5 100Ia");
        s.due("a text with a fault is no cell", x.digest(), folded(13, 1, 999, 99, 1, 1, 0));
        x.undo();
        s.due("one that was taken back did not come", x.digest(), folded(13, 1, 999, 99));
        x.type(49, 1);
        x.cover(1);
        s.due("neither the tape nor a cover counts", x.digest(), folded(13, 1, 999, 99));
    }

    /** 40 inputs are 240 values: far more than a long holds without wrapping around. */
    private void digestWraps() {
        s.says("Promise 24: then h = 31 h + v for each v");
        CellCover x = Checks.withInputs(40);
        long h = 13;
        for (int i = 0; i < 40; i++) {
            h = folded(h, 0, NONE, NONE, 0, 0, 0);
        }
        s.due("of 40 inputs", x.digest(), h);
        java.math.BigInteger whole = java.math.BigInteger.valueOf(13);
        int[] input = {0, NONE, NONE, 0, 0, 0};
        for (int i = 0; i < 240; i++) {
            whole = whole.multiply(java.math.BigInteger.valueOf(31)).add(java.math.BigInteger.valueOf(input[i % 6]));
        }
        s.due("its lowest 64 bits", x.digest(), whole.longValue());
    }

    /** The last of these calls answers as the first do. */
    private void lastOf512Calls() {
        s.says("What it is: An object is used for at most 512 calls after it has been made;");
        CellCover x = new CellCover();
        for (int call = 0; call < 510; call += 2) {
            s.due("input()", x.input(), 0);
            s.due("undo()", x.undo(), 0);
        }
        s.due("511th call", x.input(), 0);
        s.due("512th call", x.digest(), folded(13, 0, NONE, NONE, 0, 0, 0));
        CellCover y = new CellCover();
        for (int call = 0; call < 512; call += 8) {
            s.due("type", y.type(Checks.packed("1 1Ia  "), 7), 7);
            s.due("cell", y.cell(), 0);
            s.due("drop", y.drop(0), 1);
            s.due("undo", y.undo(), 1);
            s.due("undo", y.undo(), 0);
            s.due("cover", y.cover(0), 0);
            s.due("area", y.area(), 0);
            s.due("count", y.count(7), 0);
        }
    }
}
