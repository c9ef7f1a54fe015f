/** Sentences of the net and its vertices: Terms 1 and 2, promises 1 to 4, 10 and 11. */
final class NetBounds {
    private static final int BAD = -1, NO = -2, FULL = -3, NONE = -4;
    private static final int NOT = 0, AND = 1, OR = 2, XOR = 3, NAND = 4, NOR = 5, PICK = 6;
    private static final int[] FAR = {Integer.MIN_VALUE, Integer.MIN_VALUE + 1, -4, 41, 1 << 16, Integer.MAX_VALUE};

    private final Sentences s;

    NetBounds(Sentences s) {
        this.s = s;
    }

    void all() {
        fortyNodes();
        partsAhead();
        kindsOfGates();
        eightOutputs();
        valuesAreBits();
        vertexOfAnInput();
        verticesOfGates();
        verticesOfXorAndPick();
        mostVertices();
        inverseOnce();
        nandOnce();
        inverseOfInverse();
        nandOfTheSame();
        firstPart();
        whatLives();
        whatUses();
        whatIsARoot();
        newObject();
        inputPromise();
        gatePromise();
        gateRefused();
        outputPromise();
        outputRefused();
        vertexOfPromise();
        vertexPromise();
    }

    /** All of vertex(v, 0 .. 2) of the vertices from v on, each as form, first, second. */
    private void areVertices(CellCover x, int v, int... want) {
        for (int i = 0; i < want.length; i++) {
            int of = v + i / 3;
            s.due("vertex(" + of + ", " + i % 3 + ")", x.vertex(of, i % 3), want[i]);
        }
        s.due("vertices in all", x.count(3), v + want.length / 3);
        s.due("vertex behind the last", x.vertex(v + want.length / 3, 0), BAD);
    }

    private void fortyNodes() {
        s.says("Terms 1: (40 at most), as they come: INPUTS, and GATES of a KIND");
        CellCover x = new CellCover();
        for (int i = 0; i < 40; i++) {
            s.due("node " + i, i % 2 == 0 ? x.input() : x.gate(NOT, i - 1, 0, 0), i);
        }
        s.due("41st node, an input", x.input(), FULL);
        s.due("41st node, a gate", x.gate(NOT, 39, 0, 0), FULL);
        s.due("count(0)", x.count(0), 40);
        s.due("count(1)", x.count(1), 20);
        x.undo();
        s.due("count(0) after undo()", x.count(0), 39);
        s.due("40th node, an input instead", x.input(), 39);
        s.due("41st node again", x.gate(NOT, 0, 0, 0), FULL);
        s.due("count(1)", x.count(1), 21);
        x.undo();
        s.due("count(1) after undo() of an input", x.count(1), 20);
        s.due("count(3) after undo() of an input", x.count(3), 39);
    }

    private void partsAhead() {
        s.says("Terms 1: whose parts are NODES ahead of them:");
        CellCover x = Checks.withInputs(3);
        s.due("a is its own number", x.gate(NOT, 3, 0, 0), BAD);
        s.due("a is the latest node", x.gate(NOT, 2, 0, 0), 3);
        s.due("a is that gate", x.gate(NOT, 3, 0, 0), 4);
        s.due("b is its own number", x.gate(AND, 0, 5, 0), BAD);
        s.due("b is the latest node", x.gate(AND, 0, 4, 0), 5);
        s.due("c is its own number", x.gate(PICK, 0, 1, 6), BAD);
        s.due("c is the latest node", x.gate(PICK, 0, 1, 5), 6);
        s.due("all parts are node 0", x.gate(PICK, 0, 0, 0), 7);
        s.due("a below 0", x.gate(AND, -1, 0, 0), BAD);
        s.due("b below 0", x.gate(AND, 0, -1, 0), BAD);
        s.due("c below 0", x.gate(PICK, 0, 0, -1), BAD);
        s.due("no gate without nodes", new CellCover().gate(NOT, 0, 0, 0), BAD);
    }

    private void kindsOfGates() {
        s.says("Terms 1: 0 NOT a, 1 AND a b, 2 OR a b, 3 XOR a b, 4 NAND a b, 5 NOR a b, 6 PICK a b c (b if a is 1, else c).");
        // By bits a + 2 b + 4 c, the lowest first.
        int[] tables = {0x55, 0x88, 0xee, 0x66, 0x77, 0x11, 0xd8};
        CellCover x = Checks.withInputs(3);
        s.due("kind -1", x.gate(-1, 0, 1, 2), BAD);
        s.due("kind 7", x.gate(7, 0, 1, 2), BAD);
        for (int kind = NOT; kind <= PICK; kind++) {
            s.due("kind " + kind, x.gate(kind, 0, 1, 2), 3 + kind);
            s.due("output", x.output(3 + kind), kind);
        }
        for (int bits = 0; bits < 8; bits++) {
            int want = 0;
            for (int kind = NOT; kind <= PICK; kind++) {
                want |= (tables[kind] >> bits & 1) << kind;
            }
            s.due("run(" + bits + ")", x.run(bits), want);
        }
    }

    private void eightOutputs() {
        s.says("Terms 1: OUTPUTS 0 .. 7 are NODES.");
        CellCover x = Checks.withInputs(40);
        for (int i = 0; i < 8; i++) {
            s.due("output " + i, x.output(39 - i), i);
        }
        s.due("9th output", x.output(0), FULL);
        s.due("count(2)", x.count(2), 8);
        for (int i = 0; i < 8; i++) {
            s.due("only output " + i + " has its node's bit", x.run(1L << (39 - i)), 1 << i);
        }
        s.due("the input ahead of these is none", x.run(1L << 31), 0);
        x.undo();
        s.due("8th output again", x.output(0), 7);
    }

    private void valuesAreBits() {
        s.says("Terms 1: Values are 0, 1.");
        CellCover x = Checks.withInputs(1);
        x.gate(NOT, 0, 0, 0);
        x.output(0);
        x.output(1);
        s.due("run(0)", x.run(0), 2);
        s.due("run(1)", x.run(1), 1);
        s.due("run(2)", x.run(2), 2);
        s.due("run(-1)", x.run(-1), 1);
        s.due("run(least long)", x.run(Long.MIN_VALUE), 2);
        s.due("run(greatest long)", x.run(Long.MAX_VALUE), 1);
    }

    private void vertexOfAnInput() {
        s.says("Terms 2: VERTICES 0, 1, .. come of NODES, in their order: of an INPUT one;");
        CellCover x = new CellCover();
        s.due("no vertices", x.count(3), 0);
        x.input();
        areVertices(x, 0, 0, NONE, NONE);
        x.gate(AND, 0, 0, 0);
        x.input();
        areVertices(x, 0, 0, NONE, NONE, 2, 0, 0, 1, 1, NONE, 0, NONE, NONE);
        s.due("two inputs are two vertices", x.vertexOf(2), 3);
    }

    private void verticesOfGates() {
        s.says("Terms 2: of a GATE as told here, I being the inverse of a VERTEX, N the nand of two;");
        CellCover x = Checks.withInputs(2);
        s.due("no gates, no more than the inputs", x.count(3), 2);
        x.gate(NOT, 0, 0, 0);
        x.gate(NAND, 0, 1, 0);
        areVertices(x, 2, 1, 0, NONE, 2, 0, 1);
        s.says("Terms 2: NOT I(a).");
        x = Checks.withInputs(2);
        x.gate(NOT, 1, 0, 0);
        areVertices(x, 2, 1, 1, NONE);
        s.says("Terms 2: NAND N(a b).");
        x = Checks.withInputs(2);
        x.gate(NAND, 0, 1, 0);
        areVertices(x, 2, 2, 0, 1);
        s.says("Terms 2: AND I(N(a b)).");
        x = Checks.withInputs(2);
        x.gate(AND, 1, 0, 0);
        areVertices(x, 2, 2, 1, 0, 1, 2, NONE);
        s.due("vertexOf", x.vertexOf(2), 3);
        s.says("Terms 2: OR N(I(a) I(b)).");
        x = Checks.withInputs(2);
        x.gate(OR, 1, 0, 0);
        areVertices(x, 2, 1, 1, NONE, 1, 0, NONE, 2, 2, 3);
        s.due("vertexOf", x.vertexOf(2), 4);
        s.says("Terms 2: NOR I(N(I(a) I(b))).");
        x = Checks.withInputs(2);
        x.gate(NOR, 0, 1, 0);
        areVertices(x, 2, 1, 0, NONE, 1, 1, NONE, 2, 2, 3, 1, 4, NONE);
        s.due("vertexOf", x.vertexOf(2), 5);
    }

    private void verticesOfXorAndPick() {
        s.says("Terms 2: XOR N(N(a n) N(b n)), n being N(a b), which is made first.");
        CellCover x = Checks.withInputs(2);
        x.gate(XOR, 1, 0, 0);
        areVertices(x, 2, 2, 1, 0, 2, 1, 2, 2, 0, 2, 2, 3, 4);
        s.due("vertexOf", x.vertexOf(2), 5);
        s.says("Terms 2: PICK N(N(a b) N(I(a) c)).");
        x = Checks.withInputs(3);
        x.gate(PICK, 2, 1, 0);
        areVertices(x, 3, 2, 2, 1, 1, 2, NONE, 2, 4, 0, 2, 3, 5);
        s.due("vertexOf", x.vertexOf(3), 6);
        s.says("Terms 2: parts as in the text are made from the left to the right, each ahead of what has it:");
        // I(0) is there already: the others come in the same order.
        x = Checks.withInputs(3);
        x.gate(NOT, 0, 0, 0);
        x.gate(PICK, 0, 1, 2);
        areVertices(x, 3, 1, 0, NONE, 2, 0, 1, 2, 3, 2, 2, 4, 5);
        x = Checks.withInputs(2);
        x.gate(NOT, 1, 0, 0);
        x.gate(NOR, 0, 1, 0);
        areVertices(x, 2, 1, 1, NONE, 1, 0, NONE, 2, 3, 2, 1, 4, NONE);
    }

    /** 39 gates that make four vertices each: as many as there can be. */
    private void mostVertices() {
        s.says("Terms 2: VERTICES 0, 1, .. come of NODES, in their order");
        CellCover x = Checks.withInputs(1);
        x.gate(PICK, 0, 0, 0);
        s.due("vertices of the first gate", x.count(3), 5);
        for (int i = 2; i < 40; i++) {
            s.due("xor", x.gate(XOR, i - 2, i - 1, 0), i);
            s.due("four more", x.count(3), 4 * i + 1);
        }
        s.due("the last vertex", x.vertexOf(39), 156);
        s.due("it is an N", x.vertex(156, 0), 2);
        s.due("behind it", x.vertex(157, 0), BAD);
        x.output(39);
        s.due("all live", x.count(4), 157);
        Checks.cellOf(x, "1 1Ia");
        Checks.cellOf(x, "1 1Nab");
        s.due("all are covered", x.cover(0), 0);
        s.due("each by an instance", x.count(8), 156);
        s.due("the area", x.area(), 156);
        s.due("instance(155, 0)", x.instance(155, 0) >= 0 ? 1 : 0, 1);
        s.due("instance(156, 0)", x.instance(156, 0), NONE);
        s.due("runs alike", x.mapped(1), x.run(1));
    }

    private void inverseOnce() {
        s.says("Terms 2: What there is, is not made again: an I of the same VERTEX;");
        CellCover x = Checks.withInputs(2);
        x.gate(NOT, 0, 0, 0);
        s.due("count(3)", x.count(3), 3);
        x.gate(NOT, 0, 0, 0);
        s.due("not again", x.count(3), 3);
        s.due("the same vertex", x.vertexOf(3), 2);
        x.gate(NOT, 1, 0, 0);
        s.due("of another one", x.count(3), 4);
        x.gate(OR, 0, 1, 0);
        s.due("or needs only its nand", x.count(3), 5);
    }

    private void nandOnce() {
        s.says("Terms 2: an N of the same two, in whatever order;");
        CellCover x = Checks.withInputs(3);
        x.gate(NAND, 0, 1, 0);
        x.gate(NAND, 0, 1, 0);
        x.gate(NAND, 1, 0, 0);
        s.due("the same two", x.vertexOf(4), 3);
        s.due("the same two, exchanged", x.vertexOf(5), 3);
        s.due("count(3)", x.count(3), 4);
        x.gate(NAND, 0, 2, 0);
        x.gate(NAND, 1, 2, 0);
        x.gate(NAND, 1, 1, 0);
        s.due("one part alike is not the same", x.count(3), 7);
        x.undo();
        x.undo();
        x.undo();
        x.undo();
        x.undo();
        s.due("what an older node made stays", x.vertexOf(3), 3);
        x.undo();
        x.gate(NAND, 1, 0, 0);
        areVertices(x, 3, 2, 1, 0);
    }

    private void inverseOfInverse() {
        s.says("Terms 2: and I of an I of x is x.");
        CellCover x = Checks.withInputs(2);
        x.gate(NOT, 0, 0, 0);
        x.gate(NOT, 2, 0, 0);
        s.due("not not", x.vertexOf(3), 0);
        x.gate(NOT, 3, 0, 0);
        s.due("not not not", x.vertexOf(4), 2);
        s.due("count(3)", x.count(3), 3);
        x.gate(AND, 0, 1, 0);
        x.gate(NOT, 5, 0, 0);
        s.due("not and is the nand", x.vertexOf(6), 3);
        x.gate(OR, 2, 5, 0);
        areVertices(x, 3, 2, 0, 1, 1, 3, NONE, 2, 0, 3);
        // I(0) as the first part: its inverse in PICK is 0.
        x.gate(PICK, 2, 0, 1);
        areVertices(x, 5, 2, 0, 3, 2, 2, 0, 2, 6, 3);
    }

    private void nandOfTheSame() {
        s.says("Terms 2: (An N of a VERTEX and the same is an N.)");
        CellCover x = Checks.withInputs(1);
        x.gate(NAND, 0, 0, 0);
        x.gate(NOT, 0, 0, 0);
        areVertices(x, 1, 2, 0, 0, 1, 0, NONE);
        x.gate(NAND, 0, 0, 0);
        s.due("made once", x.vertexOf(3), 1);
        x.gate(XOR, 0, 0, 0);
        areVertices(x, 3, 2, 0, 1, 2, 3, 3);
    }

    private void firstPart() {
        s.says("Terms 2: The first part of an N is that which was told first when it was made.");
        CellCover x = Checks.withInputs(2);
        x.gate(NAND, 1, 0, 0);
        x.gate(NAND, 0, 1, 0);
        areVertices(x, 2, 2, 1, 0);
        x = Checks.withInputs(2);
        x.gate(NAND, 0, 1, 0);
        x.gate(XOR, 1, 0, 0);
        areVertices(x, 2, 2, 0, 1, 2, 1, 2, 2, 0, 2, 2, 3, 4);
    }

    private void whatLives() {
        s.says("Terms 2: A VERTEX LIVES if an OUTPUT is of it, or one that LIVES has it as a part.");
        CellCover x = Checks.withInputs(3);
        x.gate(AND, 0, 1, 0);
        x.gate(NOT, 2, 0, 0);
        s.due("none lives without outputs", x.count(4), 0);
        x.output(3);
        int[] lives = {1, 1, 0, 1, 1, 0};
        for (int v = 0; v < 6; v++) {
            s.due("vertex(" + v + ", 5)", x.vertex(v, 5), lives[v]);
        }
        x.output(2);
        s.due("an input that is an output", x.vertex(2, 5), 1);
        s.due("what has it as a part does not live of that", x.vertex(5, 5), 0);
        s.due("count(4)", x.count(4), 5);
        x.undo();
        x.undo();
        s.due("none lives again", x.count(4), 0);
    }

    private void whatUses() {
        s.says("Terms 2: Its USES are how many OUTPUTS are of it, and how often it is a part of VERTICES that LIVE.");
        CellCover x = Checks.withInputs(1);
        x.gate(NAND, 0, 0, 0);
        x.gate(NOT, 1, 0, 0);
        s.due("parts of what does not live are no uses", x.vertex(0, 3), 0);
        for (int i = 1; i <= 7; i++) {
            x.output(1);
            s.due("outputs", x.vertex(1, 3), i);
            s.due("twice a part of one, however many outputs", x.vertex(0, 3), 2);
        }
        x.output(2);
        s.due("7 outputs and a part", x.vertex(1, 3), 8);
        x.gate(NOT, 2, 0, 0);
        s.due("two nodes, one vertex", x.vertexOf(3), 1);
        x.undo();
        x.undo();
        x.output(0);
        s.due("an output and twice a part", x.vertex(0, 3), 3);
        x.gate(NOT, 2, 0, 0);
        x.undo();
        x.undo();
        x.gate(NOT, 2, 0, 0);
        x.output(3);
        s.due("an output by another node", x.vertex(1, 3), 8);
    }

    private void whatIsARoot() {
        s.says("Terms 2: A ROOT is a VERTEX that LIVES, is no INPUT, and has an OUTPUT of it, or other than one USE.");
        CellCover x = Checks.withInputs(2);
        x.gate(NAND, 0, 1, 0);
        x.gate(NOT, 2, 0, 0);
        x.gate(NAND, 2, 3, 0);
        s.due("no use, not alive", x.vertex(2, 4), 0);
        x.output(3);
        s.due("one use, no output", x.vertex(2, 4), 0);
        s.due("one use, an output", x.vertex(3, 4), 1);
        s.due("count(5)", x.count(5), 1);
        x.output(2);
        s.due("an output and a part", x.vertex(2, 4), 1);
        x.undo();
        s.due("one use again", x.vertex(2, 4), 0);
        x.output(4);
        s.due("two uses, no output", x.vertex(2, 4), 1);
        x.output(0);
        s.due("an input with uses", x.vertex(0, 3), 2);
        s.due("is no root", x.vertex(0, 4), 0);
        s.due("count(5)", x.count(5), 3);
        CellCover y = Checks.withInputs(1);
        y.gate(NOT, 0, 0, 0);
        y.gate(NAND, 1, 1, 0);
        y.output(2);
        s.due("twice a part of one", y.vertex(1, 4), 1);
    }

    private void newObject() {
        s.says("Promise 1: No NODES, no CELLS, an empty TAPE.");
        CellCover x = new CellCover();
        for (int what = 0; what <= 7; what++) {
            s.due("count(" + what + ")", x.count(what), 0);
        }
        s.due("no node", x.vertexOf(0), BAD);
        s.due("no cell", x.about(0, 0, 0), BAD);
        s.due("no fault", x.fault(), 0);
        s.due("nothing to undo", x.undo(), NO);
        s.due("no cover", x.count(8), NO);
        s.due("digest()", x.digest(), 13);
        s.due("the first node", x.input(), 0);
        s.due("the first byte", x.type(49, 1), 1);
        s.due("another object is new", new CellCover().count(0), 0);
        s.due("cell() of an empty tape", new CellCover().cell(), -100);
    }

    private void inputPromise() {
        s.says("Promise 2: (C) An INPUT: the number of the NODE.");
        CellCover x = new CellCover();
        x.cover(0);
        s.due("told", x.area(), 0);
        s.due("input()", x.input(), 0);
        s.due("told no more", x.area(), NO);
        x.gate(NOT, 0, 0, 0);
        s.due("input() behind a gate", x.input(), 2);
        s.due("it is the second input", x.count(1), 2);
        s.says("Promise 2: FULL: 40 NODES.");
        x = Checks.withInputs(39);
        s.due("40th", x.input(), 39);
        x.cover(1);
        s.due("41st", x.input(), FULL);
        s.due("nothing changes: nodes", x.count(0), 40);
        s.due("nothing changes: inputs", x.count(1), 40);
        s.due("nothing changes: vertices", x.count(3), 40);
        s.due("nothing changes: the cover", x.area(), 0);
        s.due("nothing to undo of it", x.undo(), 39);
        x = Checks.withInputs(1);
        for (int i = 1; i < 40; i++) {
            x.gate(NAND, 0, i - 1, 0);
        }
        s.due("behind 39 gates", x.input(), FULL);
    }

    private void gatePromise() {
        s.says("Promise 3: (C) A GATE (b not looked at of NOT, c but of PICK): the number of the NODE.");
        CellCover x = Checks.withInputs(2);
        x.cover(0);
        s.due("told", x.area(), 0);
        s.due("gate()", x.gate(NOT, 1, -1, -1), 2);
        s.due("told no more", x.area(), NO);
        int node = 3;
        for (int far : FAR) {
            s.due("NOT, b and c are " + far, x.gate(NOT, 0, far, far), node);
            node++;
        }
        for (int kind = AND; kind <= NOR; kind++) {
            s.due("kind " + kind + ", b is not there", x.gate(kind, 0, node, 0), BAD);
            s.due("kind " + kind + ", c is not there", x.gate(kind, 0, node - 1, node), node);
            node++;
            s.due("kind " + kind + ", c is far", x.gate(kind, 0, 1, FAR[kind]), node);
            node++;
        }
        s.due("PICK, c is not there", x.gate(PICK, 0, 1, node), BAD);
        s.due("PICK, b is not there", x.gate(PICK, 0, node, 1), BAD);
        s.due("PICK, all are there", x.gate(PICK, 0, 1, node - 1), node);
    }

    private void gateRefused() {
        s.says("Promise 3: BAD; FULL.");
        CellCover x = Checks.withInputs(2);
        x.cover(0);
        for (int far : FAR) {
            s.due("kind " + far, x.gate(far, 0, 0, 0), BAD);
            s.due("a " + far, x.gate(NOT, far, 0, 0), BAD);
            s.due("b " + far, x.gate(NOR, 0, far, 0), BAD);
            s.due("c " + far, x.gate(PICK, 0, 0, far), BAD);
        }
        s.due("kind -1", x.gate(-1, 0, 0, 0), BAD);
        s.due("kind 7", x.gate(7, 0, 0, 0), BAD);
        s.due("a 2", x.gate(NOT, 2, 0, 0), BAD);
        s.due("nothing changes: nodes", x.count(0), 2);
        s.due("nothing changes: vertices", x.count(3), 2);
        s.due("nothing changes: the cover", x.area(), 0);
        for (int i = 2; i < 40; i++) {
            s.due("node", x.gate(NAND, 0, i - 1, 0), i);
        }
        x.cover(0);
        s.due("41st", x.gate(AND, 0, 1, 0), FULL);
        s.due("41st of what there is", x.gate(NAND, 0, 1, 0), FULL);
        s.due("nothing changes: vertices", x.count(3), 40);
        s.due("nothing changes: the cover", x.area(), 0);
        s.due("BAD is ahead of FULL: kind", x.gate(7, 0, 1, 0), BAD);
        s.due("BAD is ahead of FULL: a", x.gate(NOT, 40, 0, 0), BAD);
        s.due("BAD is ahead of FULL: b", x.gate(AND, 0, 40, 0), BAD);
        s.due("BAD is ahead of FULL: c", x.gate(PICK, 0, 0, 40), BAD);
        s.due("what is not looked at is not BAD", x.gate(NOT, 39, 40, 40), FULL);
        s.due("nothing to undo of these", x.undo(), 39);
    }

    private void outputPromise() {
        s.says("Promise 4: (C) A NODE is an OUTPUT (a NODE may be several): its number as one.");
        CellCover x = Checks.withInputs(2);
        x.cover(0);
        s.due("told", x.area(), 0);
        s.due("the first", x.output(1), 0);
        s.due("told no more", x.area(), NO);
        s.due("the same again", x.output(1), 1);
        s.due("another", x.output(0), 2);
        s.due("and the same", x.output(1), 3);
        s.due("uses", x.vertex(1, 3), 3);
        s.due("run(2)", x.run(2), 1 | 2 | 8);
        s.due("run(1)", x.run(1), 4);
    }

    private void outputRefused() {
        s.says("Promise 4: BAD;");
        CellCover x = new CellCover();
        s.due("there are no nodes", x.output(0), BAD);
        x.input();
        x.input();
        x.cover(0);
        s.due("-1", x.output(-1), BAD);
        s.due("2", x.output(2), BAD);
        for (int far : FAR) {
            s.due("" + far, x.output(far), BAD);
        }
        s.due("nothing changes: outputs", x.count(2), 0);
        s.due("nothing changes: the cover", x.area(), 0);
        s.due("0", x.output(0), 0);
        s.due("1", x.output(1), 1);
        s.says("Promise 4: FULL: 8.");
        for (int i = 2; i < 8; i++) {
            s.due("output", x.output(0), i);
        }
        x.cover(0);
        s.due("9th", x.output(0), FULL);
        s.due("BAD is ahead of FULL", x.output(2), BAD);
        s.due("nothing changes: outputs", x.count(2), 8);
        s.due("nothing changes: uses", x.vertex(0, 3), 7);
        s.due("nothing changes: the cover", x.area(), 0);
        s.due("nothing to undo of it", x.undo(), 9);
        s.due("the 8th again", x.output(1), 7);
    }

    private void vertexOfPromise() {
        s.says("Promise 10: The VERTEX that a NODE is. BAD.");
        CellCover x = new CellCover();
        s.due("there are no nodes", x.vertexOf(0), BAD);
        x.input();
        x.gate(AND, 0, 0, 0);
        s.due("node 0", x.vertexOf(0), 0);
        s.due("node 1", x.vertexOf(1), 2);
        s.due("node 2, where vertex 2 is", x.vertexOf(2), BAD);
        s.due("node -1", x.vertexOf(-1), BAD);
        for (int far : FAR) {
            s.due("node " + far, x.vertexOf(far), BAD);
        }
        x.undo();
        s.due("node 1, taken back", x.vertexOf(1), BAD);
        for (int i = 1; i < 40; i++) {
            x.input();
        }
        s.due("node 39", x.vertexOf(39), 39);
        s.due("node 40", x.vertexOf(40), BAD);
    }

    private void vertexPromise() {
        s.says("Promise 11: Of a VERTEX: 0 what it is (0 INPUT, 1 I, 2 N), 1, 2 its parts (NONE), 3 USES, 4 whether it is a ROOT, 5 whether it LIVES (1, 0).");
        CellCover x = Checks.withInputs(2);
        x.gate(NOT, 1, 0, 0);
        x.gate(NAND, 2, 0, 0);
        x.gate(NOT, 0, 0, 0);
        x.output(3);
        int[][] want = {
            {0, NONE, NONE, 1, 0, 1}, {0, NONE, NONE, 1, 0, 1}, {1, 1, NONE, 1, 0, 1}, {2, 2, 0, 1, 1, 1},
            {1, 0, NONE, 0, 0, 0},
        };
        for (int v = 0; v < 5; v++) {
            for (int what = 0; what < 6; what++) {
                s.due("vertex(" + v + ", " + what + ")", x.vertex(v, what), want[v][what]);
            }
        }
        s.says("Promise 11: BAD.");
        s.due("vertex(5, 0)", x.vertex(5, 0), BAD);
        s.due("vertex(-1, 0)", x.vertex(-1, 0), BAD);
        for (int v = 0; v < 5; v++) {
            s.due("what 6", x.vertex(v, 6), BAD);
            s.due("what -1", x.vertex(v, -1), BAD);
        }
        for (int far : FAR) {
            s.due("vertex(" + far + ", 0)", x.vertex(far, 0), BAD);
            s.due("vertex(0, " + far + ")", x.vertex(0, far), BAD);
        }
        s.due("no vertices", new CellCover().vertex(0, 0), BAD);
    }
}
