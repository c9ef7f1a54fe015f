/** Each promise of the document, with answers worked out by hand. */
public final class PromiseTest {
    private static final int BAD = -1, NO = -2, FULL = -3, NONE = -4;
    private static final int NOT = 0, AND = 1, OR = 2, XOR = 3, NAND = 4, NOR = 5, PICK = 6;
    private static final int[] WRONG = {Integer.MIN_VALUE, -1000, -4, -2, -1, 1000, Integer.MAX_VALUE};

    private static final Checks CHECKS = new Checks();

    private PromiseTest() {
    }

    public static void main(String[] args) {
        newObject();
        inputs();
        gates();
        gateVertices();
        outputs();
        types();
        cells();
        faults();
        cellsBehindFaults();
        latestFault();
        drops();
        undos();
        undoneVertices();
        undoOfAll();
        undoneThenOthers();
        vertexOfs();
        verticesAsked();
        rootsAndUses();
        matchOrder();
        matchBounds();
        matchLetters();
        matchesAndRoots();
        cheapAndFast();
        coverTies();
        coverWithout();
        coverIsTold();
        bests();
        instances();
        instancesDeep();
        areasAndArrivals();
        worths();
        runs();
        mappedRuns();
        abouts();
        counts();
        digests();
        readmeExample();
        CHECKS.end();
    }

    private static void due(String call, long got, long want) {
        CHECKS.due(call, got, want);
    }

    private static int cell(CellCover x, String text) {
        return Checks.cellOf(x, text);
    }

    private static CellCover withInputs(int n) {
        return Checks.withInputs(n);
    }

    /** Asks vertex(v, 0 .. 2). */
    private static void isVertex(CellCover x, int v, int form, int first, int second) {
        due("vertex(" + v + ", 0)", x.vertex(v, 0), form);
        due("vertex(" + v + ", 1)", x.vertex(v, 1), first);
        due("vertex(" + v + ", 2)", x.vertex(v, 2), second);
    }

    private static void newObject() {
        CellCover x = new CellCover();
        for (int what = 0; what <= 7; what++) {
            due("new: count(" + what + ")", x.count(what), 0);
        }
        due("new: count(8)", x.count(8), NO);
        due("new: digest()", x.digest(), 13);
        due("new: fault()", x.fault(), 0);
        due("new: undo()", x.undo(), NO);
        due("new: area()", x.area(), NO);
        due("new: mapped(-1)", x.mapped(-1), NO);
        due("new: run(-1)", x.run(-1), 0);
        due("new: vertexOf(0)", x.vertexOf(0), BAD);
        due("new: vertex(0, 0)", x.vertex(0, 0), BAD);
        due("new: about(0, 0, 0)", x.about(0, 0, 0), BAD);
        due("new: instance(0, 0)", x.instance(0, 0), NO);
        due("new: cover(0)", x.cover(0), 0);
        due("new: area() of nothing", x.area(), 0);
        due("new: instance(0, 0) of nothing", x.instance(0, 0), NONE);
        due("new: count(8) of nothing", x.count(8), 0);
    }

    private static void inputs() {
        CellCover x = new CellCover();
        for (int i = 0; i < 40; i++) {
            due("input()", x.input(), i);
            due("vertexOf an input", x.vertexOf(i), i);
        }
        isVertex(x, 39, 0, NONE, NONE);
        due("cover(1)", x.cover(1), 0);
        due("41st input()", x.input(), FULL);
        due("count(0)", x.count(0), 40);
        due("a cover stays where input() is refused", x.area(), 0);
        due("undo() counts no refused input", x.undo(), 39);
        due("input() again", x.input(), 39);
    }

    private static void gates() {
        CellCover x = new CellCover();
        due("gate without nodes", x.gate(NOT, 0, 0, 0), BAD);
        x.input();
        for (int wrong : WRONG) {
            due("gate kind " + wrong, x.gate(wrong, 0, 0, 0), BAD);
            due("gate a " + wrong, x.gate(AND, wrong, 0, 0), BAD);
            due("gate b " + wrong, x.gate(OR, 0, wrong, 0), BAD);
            due("gate c " + wrong, x.gate(PICK, 0, 0, wrong), BAD);
            due("not a " + wrong, x.gate(NOT, wrong, 0, 0), BAD);
        }
        due("gate kind 7", x.gate(7, 0, 0, 0), BAD);
        due("gate of itself", x.gate(NAND, 1, 0, 0), BAD);
        for (int kind = AND; kind <= PICK; kind++) {
            due("gate b of itself", x.gate(kind, 0, 1, 0), BAD);
        }
        due("not b and c", x.gate(NOT, 0, -9, 99), 1);
        for (int kind = AND; kind < PICK; kind++) {
            due("c is not looked at of " + kind, x.gate(kind, 0, 1, -77), kind + 1);
        }
        due("pick", x.gate(PICK, 0, 1, 2), 7);
        for (int i = 8; i < 40; i++) {
            due("gate", x.gate(XOR, i - 1, i - 2, 0), i);
        }
        due("41st node", x.gate(NAND, 0, 1, 0), FULL);
        due("41st node of a wrong kind", x.gate(7, 0, 1, 0), BAD);
        due("41st node of a wrong part", x.gate(NAND, 0, 40, 0), BAD);
        due("41st node, an input", x.input(), FULL);
        due("count(0)", x.count(0), 40);
    }

    private static void gateVertices() {
        CellCover x = withInputs(3);
        due("not", x.gate(NOT, 0, 0, 0), 3);
        isVertex(x, 3, 1, 0, NONE);
        due("and", x.gate(AND, 0, 1, 0), 4);
        isVertex(x, 4, 2, 0, 1);
        isVertex(x, 5, 1, 4, NONE);
        due("or", x.gate(OR, 0, 1, 0), 5);
        isVertex(x, 6, 1, 1, NONE);
        isVertex(x, 7, 2, 3, 6);
        due("nor", x.gate(NOR, 1, 0, 0), 6);
        isVertex(x, 8, 1, 7, NONE);
        due("xor", x.gate(XOR, 0, 2, 0), 7);
        isVertex(x, 9, 2, 0, 2);
        isVertex(x, 10, 2, 0, 9);
        isVertex(x, 11, 2, 2, 9);
        isVertex(x, 12, 2, 10, 11);
        due("nand, exchanged", x.gate(NAND, 1, 0, 0), 8);
        due("nand, exchanged, is there", x.vertexOf(8), 4);
        due("pick", x.gate(PICK, 2, 0, 1), 9);
        isVertex(x, 13, 1, 2, NONE);
        isVertex(x, 14, 2, 13, 1);
        isVertex(x, 15, 2, 9, 14);
        due("count(3)", x.count(3), 16);
        due("not of not", x.gate(NOT, 3, 0, 0), 10);
        due("not of not is there", x.vertexOf(10), 0);
        due("nand of the same", x.gate(NAND, 0, 0, 0), 11);
        isVertex(x, 16, 2, 0, 0);
        due("not of and", x.gate(NOT, 4, 0, 0), 12);
        due("not of and is the nand", x.vertexOf(12), 4);
        due("xor of the same", x.gate(XOR, 1, 1, 0), 13);
        isVertex(x, 17, 2, 1, 1);
        isVertex(x, 18, 2, 1, 17);
        isVertex(x, 19, 2, 18, 18);
        due("count(3) at the end", x.count(3), 20);
        int[] nodes = {0, 1, 2, 3, 5, 7, 8, 12, 4, 15, 0, 16, 4, 19};
        for (int n = 0; n < nodes.length; n++) {
            due("vertexOf(" + n + ")", x.vertexOf(n), nodes[n]);
        }
    }

    private static void outputs() {
        CellCover x = new CellCover();
        due("output without nodes", x.output(0), BAD);
        x.input();
        x.gate(NOT, 0, 0, 0);
        for (int wrong : WRONG) {
            due("output(" + wrong + ")", x.output(wrong), BAD);
        }
        due("output(2)", x.output(2), BAD);
        for (int i = 0; i < 8; i++) {
            due("output(1)", x.output(i == 3 ? 0 : 1), i);
        }
        due("9th output", x.output(1), FULL);
        due("9th output that is wrong", x.output(2), BAD);
        due("count(2)", x.count(2), 8);
        due("uses of seven outputs", x.vertex(1, 3), 7);
        due("uses of an output and a part", x.vertex(0, 3), 2);
        due("run(0)", x.run(0), 0xf7);
        due("run(1)", x.run(1), 8);
    }

    private static void types() {
        CellCover x = new CellCover();
        for (int wrong : WRONG) {
            due("type n " + wrong, x.type(49, wrong), BAD);
        }
        due("type n 0", x.type(49, 0), BAD);
        due("type n 9", x.type(49, 9), BAD);
        due("count(7)", x.count(7), 0);
        due("type the lowest five", x.type(Checks.packed("XXX1 2Ia"), 5), 5);
        due("cell", x.cell(), 0);
        due("the highest comes first", x.about(0, 0, 0) * 10 + x.about(0, 1, 0), 12);
        due("type a byte above 127", x.type(-1, 1), 1);
        due("it can not stand there", x.cell(), -100);
        for (int i = 1; i <= 7; i++) {
            due("type 8", x.type(0x2020202020202020L, 8), 8 * i);
        }
        due("type above 60", x.type(0, 5), FULL);
        due("type above 60, n wrong", x.type(0, 9), BAD);
        due("type to 60", x.type(0x20202031, 4), 60);
        due("type at 60", x.type(49, 1), FULL);
        due("count(7)", x.count(7), 60);
        due("cell() of 60 bytes", x.cell(), -160);
        due("fault()", x.fault(), 1);
        due("the tape is empty then", x.count(7), 0);
    }

    private static void cells() {
        CellCover x = new CellCover();
        String[] fine = {
            "1 0Ia", "999 99 N a b ", "001 009Nff", " 1  1  I  N a  I  b", "12 3NNabNcd", "1 1IIIIIIIIIIIa",
            "1 1NNNNNabcdef ", "2 1NaNbNcNdNef", "1 1 I a", "999 099Ia",
            "                                                      1 1Ia ",
        };
        for (int i = 0; i < fine.length; i++) {
            due("cell of '" + fine[i] + "'", cell(x, fine[i]), i);
            due("fault()", x.fault(), 0);
            due("count(7)", x.count(7), 0);
        }
        due("area", x.about(1, 0, 0), 999);
        due("delay", x.about(1, 1, 0), 99);
        due("area with zeros", x.about(2, 0, 0), 1);
        due("delay with zeros", x.about(2, 1, 0), 9);
        due("symbols", x.about(3, 2, 0), 5);
        for (int i = fine.length; i < 20; i++) {
            due("cell", cell(x, "1 1Ia"), i);
        }
        Checks.typeText(x, "7 7");
        due("21st cell", x.cell(), FULL);
        due("the tape stays", x.count(7), 3);
        due("fault() stays", x.fault(), 0);
        due("drop(4)", x.drop(4), 1);
        due("a dropped one keeps its number", x.cell(), FULL);
        x.undo();
        x.undo();
        due("the tape stays beside undo()", x.type(Checks.packed("Ia"), 2), 5);
        due("cell after undo()", x.cell(), 19);
        due("it is what was typed", x.about(19, 0, 0), 7);
    }

    private static void isFault(String text, int fault, int place) {
        CellCover x = new CellCover();
        due("cell() of '" + text + "'", cell(x, text), -100 - place);
        due("fault() of '" + text + "'", x.fault(), fault);
        due("count(6) of '" + text + "'", x.count(6), 0);
        due("count(7) of '" + text + "'", x.count(7), 0);
        due("undo() of '" + text + "'", x.undo(), NO);
    }

    private static void faults() {
        isFault("", 1, 0);
        isFault("   ", 1, 3);
        isFault("1", 1, 1);
        isFault("1 ", 1, 2);
        isFault("1 1", 1, 3);
        isFault("1 1  ", 1, 5);
        isFault("1 1I", 1, 4);
        isFault("1 1Na", 1, 5);
        isFault("1 1a", 1, 3);
        isFault("1 1 f", 1, 4);
        isFault("1 1Ig", 1, 4);
        isFault("1 1I`", 1, 4);
        isFault("1 1ia", 1, 3);
        isFault("1 1IA", 1, 4);
        isFault("1 1Iab", 1, 5);
        isFault("1 1Ia  I", 1, 7);
        isFault("1 1Ia1", 1, 5);
        isFault("1 2 3Ia", 1, 4);
        isFault("N", 1, 0);
        isFault("1N", 1, 1);
        isFault("1 Ia", 1, 2);
        isFault("-1 1Ia", 1, 0);
        isFault("1\t1Ia", 1, 1);
        isFault("1 1I\0", 1, 4);
        isFault("1 1I\u00e1", 1, 4);
        isFault("0 1Ia", 2, 0);
        isFault("  000 1Ia", 2, 2);
        isFault("0", 2, 0);
        isFault("0N", 2, 0);
        isFault("1 100Ia", 2, 2);
        isFault("1   999", 2, 4);
        isFault("0 100Ia", 2, 0);
        faultsOfLongNumbers();
        isFault("1 1IIIIIIIIIIIIa", 3, 15);
        isFault("1 1NNNNNNNNNNNNN", 3, 15);
        isFault("1 1 N NNNNNNNNNNN  N", 3, 19);
        isFault("1 1NNNNNNabcdefg", 1, 15);
        isFault("1 1NNNNNNabcdeff", 3, 15);
        isFault("1 1IIIIIIIIIIIIx", 1, 15);
        isFault("1 1IIIIIIIIIIII", 1, 15);
        // The tree has its end with the 12th: no 13th is due.
        isFault("1 1IIIIIIIIIIIab", 1, 15);
    }

    /** Three digits out of bounds are a 2 at the first of them, ahead of the 1 at the 4th. */
    private static void faultsOfLongNumbers() {
        isFault("1000 1Ia", 1, 3);
        isFault("0010 1Ia", 1, 3);
        isFault("  9999", 1, 5);
        isFault("99999999", 1, 3);
        isFault("0000 1Ia", 2, 0);
        isFault("0000\0\0\0\0", 2, 0);
        isFault("0001 1Ia", 2, 0);
        isFault("  0000000", 2, 2);
        isFault("1 0001Ia", 1, 5);
        isFault("1 0000Ia", 1, 5);
        isFault("1  0999Ia", 1, 6);
        isFault("1 0100", 1, 5);
        isFault("1 1000Ia", 2, 2);
        isFault("1   1001", 2, 4);
        isFault("1 9999Ia", 2, 2);
        isFault("0000 1000Ia", 2, 0);
        isFault("1000 1000Ia", 1, 3);
    }

    /** What a text that failed has left must not be seen. */
    private static void cellsBehindFaults() {
        CellCover x = withInputs(1);
        x.gate(NOT, 0, 0, 0);
        x.output(1);
        due("a tree without its end", cell(x, "9 9NNefNIc"), -110);
        due("cell", cell(x, "1 1Ia"), 0);
        due("symbols", x.about(0, 2, 0), 2);
        due("pins", x.about(0, 3, 0), 1);
        due("matches", x.matches(0, 1), 1);
        x.undo();
        due("another in its place", cell(x, "2 3NaIb"), 0);
        due("symbols", x.about(0, 2, 0), 4);
        due("pins", x.about(0, 3, 0), 3);
        due("matches", x.matches(0, 1), 0);
    }

    private static void latestFault() {
        CellCover x = new CellCover();
        cell(x, "0 0");
        due("fault()", x.fault(), 2);
        x.input();
        x.type(65, 1);
        due("fault() stays", x.fault(), 2);
        due("cell() fails", x.cell(), -100);
        due("fault() of the latest", x.fault(), 1);
        cell(x, "1 1Ia");
        due("fault() of a fine one", x.fault(), 0);
        cell(x, "1 1NNNNNNNNNNNNN");
        due("fault() 3", x.fault(), 3);
        due("undo() takes the cell back", x.undo(), 1);
        due("fault() stays beside undo()", x.fault(), 3);
        for (int i = 0; i < 20; i++) {
            due("cell", cell(x, "1 1Ia"), i);
        }
        x.type(65, 1);
        due("FULL is ahead of faults", x.cell(), FULL);
        due("fault() stays beside FULL", x.fault(), 0);
    }

    private static void drops() {
        CellCover x = new CellCover();
        due("drop(0) of none", x.drop(0), BAD);
        cell(x, "1 2Ia");
        cell(x, "3 4Nab");
        for (int wrong : WRONG) {
            due("drop(" + wrong + ")", x.drop(wrong), BAD);
        }
        due("drop(2)", x.drop(2), BAD);
        due("drop(0)", x.drop(0), 1);
        due("drop(0) again", x.drop(0), BAD);
        due("count(6)", x.count(6), 1);
        due("about(0, 0, 0)", x.about(0, 0, 0), BAD);
        due("about(1, 0, 0)", x.about(1, 0, 0), 3);
        due("the next one has the next number", cell(x, "5 6Ia"), 2);
        due("count(6)", x.count(6), 2);
    }

    private static void undos() {
        CellCover x = new CellCover();
        due("undo() of nothing", x.undo(), NO);
        long empty = x.digest();
        x.input();
        x.input();
        long two = x.digest();
        x.gate(XOR, 0, 1, 0);
        x.gate(9, 0, 0, 0);
        x.output(2);
        long four = x.digest();
        cell(x, "1 1Ia");
        x.type(77, 1);
        cell(x, "");
        cell(x, "2 1Nab");
        x.drop(0);
        due("undo() the drop", x.undo(), 6);
        due("it is there again", x.about(0, 0, 0), 1);
        x.drop(1);
        x.drop(0);
        due("undo() one drop", x.undo(), 7);
        due("cell 0 is there", x.matches(0, 5), 0);
        due("cell 1 is not", x.matches(1, 5), BAD);
        due("undo() the other", x.undo(), 6);
        due("cell 1 is there", x.matches(1, 5), 2);
        due("cover(0)", x.cover(0), 0);
        due("undo() a cell", x.undo(), 5);
        due("undo() ends the cover", x.area(), NO);
        due("count(6)", x.count(6), 1);
        due("undo() a cell", x.undo(), 4);
        due("digest() as it was", x.digest(), four);
        due("undo() the output", x.undo(), 3);
        due("count(4)", x.count(4), 0);
        due("count(5)", x.count(5), 0);
        due("undo() the gate", x.undo(), 2);
        due("count(1)", x.count(1), 2);
        due("digest() as it was", x.digest(), two);
        due("undo() an input", x.undo(), 1);
        due("count(1)", x.count(1), 1);
        due("undo() an input", x.undo(), 0);
        due("digest() as it was", x.digest(), empty);
        due("cover(0)", x.cover(0), 0);
        due("undo() of nothing", x.undo(), NO);
        due("the cover stays where undo() is refused", x.area(), 0);
    }

    private static void undoneVertices() {
        CellCover x = withInputs(2);
        x.gate(OR, 0, 1, 0);
        due("or makes three", x.count(3), 5);
        x.undo();
        due("undo() takes them back", x.count(3), 2);
        due("they are BAD", x.vertex(2, 0), BAD);
        x.gate(NAND, 1, 0, 0);
        isVertex(x, 2, 2, 1, 0);
        x.gate(AND, 0, 1, 0);
        due("only the inverse is new", x.count(3), 4);
        x.undo();
        due("only that is taken back", x.count(3), 3);
        isVertex(x, 2, 2, 1, 0);
    }

    private static void undoOfAll() {
        CellCover x = new CellCover();
        for (int i = 0; i < 40; i++) {
            due("node", i % 3 == 0 ? x.input() : x.gate(i % 7, i - 1, i / 2, i / 3), i);
        }
        for (int i = 0; i < 8; i++) {
            due("output", x.output(39 - i), i);
        }
        for (int i = 0; i < 20; i++) {
            due("cell", cell(x, "1 1Ia"), i);
        }
        for (int i = 19; i >= 0; i--) {
            due("drop", x.drop(i), 1);
        }
        for (int left = 87; left >= 0; left--) {
            due("undo()", x.undo(), left);
            due("cells", x.count(6), left >= 68 ? 88 - left : Math.max(0, left - 48));
        }
        due("undo() of nothing", x.undo(), NO);
        due("digest() of nothing", x.digest(), 13);
    }

    /** Vertex 1 is an inverse at first, and an input later. */
    private static void undoneThenOthers() {
        CellCover x = new CellCover();
        cell(x, "3 4Ia");
        cell(x, "5 6Nab");
        x.input();
        x.gate(NOT, 0, 0, 0);
        x.output(1);
        due("cover(0)", x.cover(0), 0);
        due("area", x.best(1, 0), 3);
        x.undo();
        x.undo();
        x.input();
        x.gate(NAND, 0, 1, 0);
        x.output(2);
        due("cover(0)", x.cover(0), 0);
        due("area of an input", x.best(1, 0), 0);
        due("arrival of an input", x.best(1, 1), 0);
        due("area", x.area(), 5);
        due("arrival", x.arrival(0), 6);
        due("mapped(3)", x.mapped(3), 0);
        due("mapped(1)", x.mapped(1), 1);
    }

    private static void vertexOfs() {
        CellCover x = withInputs(2);
        x.gate(NOR, 0, 1, 0);
        due("vertexOf(1)", x.vertexOf(1), 1);
        due("vertexOf(2)", x.vertexOf(2), 5);
        due("vertexOf(3)", x.vertexOf(3), BAD);
        for (int wrong : WRONG) {
            due("vertexOf(" + wrong + ")", x.vertexOf(wrong), BAD);
        }
    }

    private static void verticesAsked() {
        CellCover x = withInputs(2);
        x.gate(AND, 0, 1, 0);
        for (int wrong : WRONG) {
            due("vertex(" + wrong + ", 0)", x.vertex(wrong, 0), BAD);
            due("vertex(0, " + wrong + ")", x.vertex(0, wrong), BAD);
        }
        due("vertex(4, 0)", x.vertex(4, 0), BAD);
        due("vertex(3, 6)", x.vertex(3, 6), BAD);
        for (int v = 0; v < 4; v++) {
            due("nothing is used", x.vertex(v, 3), 0);
            due("nothing is a root", x.vertex(v, 4), 0);
            due("nothing lives", x.vertex(v, 5), 0);
        }
        x.output(2);
        for (int v = 0; v < 4; v++) {
            due("all are used", x.vertex(v, 3), 1);
            due("the output is a root", x.vertex(v, 4), v == 3 ? 1 : 0);
            due("all live", x.vertex(v, 5), 1);
        }
    }

    /** n = N(a b) is used by m = N(n n), by an inverse that does not live, and by z = N(n c). */
    private static void rootsAndUses() {
        CellCover x = withInputs(3);
        x.gate(NAND, 0, 1, 0);
        x.gate(NAND, 3, 3, 0);
        x.gate(NOT, 3, 0, 0);
        x.gate(NAND, 3, 2, 0);
        x.output(4);
        due("n twice in m", x.vertex(3, 3), 2);
        due("n is a root", x.vertex(3, 4), 1);
        due("what does not live is not used", x.vertex(5, 3), 0);
        due("what does not live is no root", x.vertex(5, 4), 0);
        due("c does not live", x.vertex(2, 5), 0);
        due("count(4)", x.count(4), 4);
        due("count(5)", x.count(5), 2);
        x.output(6);
        due("n in m and z", x.vertex(3, 3), 3);
        due("c lives", x.vertex(2, 5), 1);
        x.undo();
        x.undo();
        x.output(6);
        due("n in z alone", x.vertex(3, 3), 1);
        due("n is no root", x.vertex(3, 4), 0);
        x.output(3);
        due("n as an output, too", x.vertex(3, 3), 2);
        due("n is a root", x.vertex(3, 4), 1);
        x.output(0);
        x.output(0);
        due("an input is used", x.vertex(0, 3), 3);
        due("an input is no root", x.vertex(0, 4), 0);
        x.undo();
        x.undo();
        x.undo();
        x.undo();
        x.output(3);
        due("an output with one use is a root", x.vertex(3, 4), 1);
        due("one use", x.vertex(3, 3), 1);
    }

    /** N(N(0 1) N(2 3)) is vertex 6. */
    private static CellCover twoLevels() {
        CellCover x = withInputs(4);
        x.gate(NAND, 0, 1, 0);
        x.gate(NAND, 2, 3, 0);
        x.gate(NAND, 4, 5, 0);
        x.output(6);
        return x;
    }

    private static void matchOrder() {
        CellCover x = twoLevels();
        int c = cell(x, "1 1NNabNcd");
        int[][] want = {
            {0, 1, 2, 3}, {0, 1, 3, 2}, {1, 0, 2, 3}, {1, 0, 3, 2},
            {2, 3, 0, 1}, {2, 3, 1, 0}, {3, 2, 0, 1}, {3, 2, 1, 0},
        };
        due("matches", x.matches(c, 6), 8);
        for (int k = 0; k < 8; k++) {
            for (int pin = 0; pin < 6; pin++) {
                due("match " + k + " pin " + pin, x.match(c, 6, k, pin), pin < 4 ? want[k][pin] : NONE);
            }
        }
        int d = cell(x, "1 1NfNba");
        due("matches", x.matches(d, 6), 4);
        int[][] second = {{3, 2, 4}, {2, 3, 4}, {1, 0, 5}, {0, 1, 5}};
        for (int k = 0; k < 4; k++) {
            due("pin a", x.match(d, 6, k, 0), second[k][0]);
            due("pin b", x.match(d, 6, k, 1), second[k][1]);
            due("pin f", x.match(d, 6, k, 5), second[k][2]);
            due("pin c", x.match(d, 6, k, 2), NONE);
        }
    }

    private static void matchBounds() {
        CellCover x = twoLevels();
        int c = cell(x, "1 1Nab");
        int gone = cell(x, "1 1Nab");
        x.drop(gone);
        x.gate(NOT, 0, 0, 0);
        for (int wrong : WRONG) {
            due("matches cell " + wrong, x.matches(wrong, 6), BAD);
            due("matches v " + wrong, x.matches(c, wrong), BAD);
            due("match cell " + wrong, x.match(wrong, 6, 0, 0), BAD);
            due("match v " + wrong, x.match(c, wrong, 0, 0), BAD);
            due("match k " + wrong, x.match(c, 6, wrong, 0), NONE);
            due("match pin " + wrong, x.match(c, 6, 0, wrong), BAD);
        }
        due("a dropped cell", x.matches(gone, 6), BAD);
        due("a dropped cell", x.match(gone, 6, 0, 0), BAD);
        due("a vertex that does not live", x.matches(c, 7), BAD);
        due("a vertex that does not live", x.match(c, 7, 0, 0), BAD);
        due("no such vertex", x.matches(c, 8), BAD);
        due("pin 6", x.match(c, 6, 0, 6), BAD);
        due("pin 6 of no match", x.match(c, 6, 9, 6), BAD);
        due("not so many", x.match(c, 6, 2, 0), NONE);
        due("at an input", x.matches(c, 0), 0);
        due("at an input", x.match(c, 0, 0, 0), NONE);
        due("inside a tree", x.matches(c, 4), 2);
    }

    private static void matchLetters() {
        CellCover x = withInputs(2);
        x.gate(NAND, 0, 0, 0);
        x.gate(NAND, 0, 1, 0);
        x.gate(XOR, 0, 1, 0);
        x.output(2);
        x.output(4);
        int same = cell(x, "1 1Naa");
        int two = cell(x, "1 1Nab");
        due("Naa at N(0 0)", x.matches(same, 2), 2);
        due("Naa at N(0 1)", x.matches(same, 3), 0);
        due("Nab at N(0 0): exchanged, too", x.matches(two, 2), 2);
        due("a", x.match(two, 2, 1, 0), 0);
        due("b", x.match(two, 2, 1, 1), 0);
        // 3 = N(0 1) is a root; 4 = N(0 3), 5 = N(1 3), 6 = N(4 5).
        int shared = cell(x, "1 1NNacNbc");
        due("one letter on the same vertex", x.matches(shared, 6), 2);
        due("a first", x.match(shared, 6, 0, 0), 0);
        due("b first", x.match(shared, 6, 0, 1), 1);
        due("c first", x.match(shared, 6, 0, 2), 3);
        due("a second", x.match(shared, 6, 1, 0), 1);
        due("c second", x.match(shared, 6, 1, 2), 3);
        due("the root is not inside", x.matches(cell(x, "1 1NNaNabNbNab"), 6), 0);
        due("I on N", x.matches(cell(x, "1 1Ia"), 6), 0);
    }

    private static void matchesAndRoots() {
        CellCover x = withInputs(2);
        x.gate(AND, 0, 1, 0);
        x.output(2);
        int inverse = cell(x, "1 1Ia");
        int and = cell(x, "1 1INab");
        due("and, exchanged too", x.matches(and, 3), 2);
        due("its pin", x.match(and, 3, 1, 0), 1);
        x.gate(NAND, 0, 1, 0);
        x.output(3);
        due("no root inside", x.matches(and, 3), 0);
        due("a pin may lie on a root", x.match(inverse, 3, 0, 0), 2);
        due("a root is the first", x.matches(and, 2), 0);
        x.undo();
        due("no root any more", x.matches(and, 3), 2);
    }

    /** Cells 0 inverse, 1 nand, 2 and; vertex 3 is the and of 0 and 1. */
    private static CellCover andWithThree() {
        CellCover x = withInputs(2);
        x.gate(AND, 0, 1, 0);
        x.output(2);
        cell(x, "1 5Ia");
        cell(x, "2 6Nab");
        cell(x, "4 1INab");
        return x;
    }

    private static void cheapAndFast() {
        CellCover x = andWithThree();
        for (int wrong : WRONG) {
            due("cover(" + wrong + ")", x.cover(wrong), BAD);
        }
        due("cover(2)", x.cover(2), BAD);
        due("no cover yet", x.area(), NO);
        due("cover(0)", x.cover(0), 0);
        due("cheap area", x.area(), 3);
        due("cheap arrival", x.arrival(0), 11);
        due("cover(2)", x.cover(2), BAD);
        due("the cover stays", x.area(), 3);
        due("cover(1)", x.cover(1), 0);
        due("fast area", x.area(), 4);
        due("fast arrival", x.arrival(0), 1);
        due("fast cell", x.best(3, 2), 2);
        due("what is inside is chosen, too", x.best(2, 2), 1);
        due("one instance", x.count(8), 1);
    }

    private static void coverTies() {
        CellCover x = withInputs(2);
        x.gate(NAND, 0, 1, 0);
        x.output(2);
        cell(x, "2 3Nba");
        cell(x, "2 3Nab");
        x.cover(0);
        due("the first cell", x.best(2, 2), 0);
        due("its first match", x.best(2, 3), 1);
        due("its first match", x.best(2, 4), 0);
        cell(x, "2 2Nab");
        cell(x, "3 2Nab");
        cell(x, "1 9Nab");
        cell(x, "1 8Nab");
        x.cover(0);
        due("cheap: the least area, then arrival", x.best(2, 2), 5);
        x.cover(1);
        due("fast: the least arrival, then area", x.best(2, 2), 2);
    }

    private static void coverWithout() {
        CellCover x = withInputs(2);
        x.gate(AND, 0, 1, 0);
        x.gate(NOR, 0, 1, 0);
        x.output(3);
        x.output(2);
        // 2 = N(0 1), 3 = I(2), 4 = I(0), 5 = I(1), 6 = N(4 5), 7 = I(6).
        due("the least root", x.cover(0), -103);
        cell(x, "1 1Ia");
        due("a pin's vertex has none", x.cover(1), -103);
        due("no cover", x.best(3, 0), NO);
        cell(x, "3 3INab");
        due("cover(0)", x.cover(0), 0);
        due("what is inside needs none", x.best(2, 0), NONE);
        due("and is inside", x.best(3, 2), 1);
        due("pins of nor", x.best(7, 3), 4);
        x.drop(0);
        due("the other root", x.cover(0), -107);
        due("no cover", x.area(), NO);
        CellCover y = withInputs(1);
        y.output(0);
        due("an input needs none", y.cover(1), 0);
        due("area 0", y.area(), 0);
        due("arrival 0", y.arrival(0), 0);
    }

    private static void coverIsTold() {
        CellCover x = andWithThree();
        x.cover(0);
        x.type(65, 1);
        x.cell();
        x.gate(7, 0, 0, 0);
        x.output(9);
        x.drop(7);
        x.worth(0);
        x.matches(0, 3);
        x.type(65, 1);
        due("still told", x.area(), 3);
        due("still told", x.best(3, 0), 3);
        int[] left = new int[6];
        for (int i = 0; i < 6; i++) {
            left[i] = changed(x, i);
            due("told no more", x.area(), NO);
            due("told no more", x.best(3, 0), NO);
            due("told no more", x.instance(0, 0), NO);
            due("told no more", x.arrival(0), NO);
            due("told no more", x.worth(1), NO);
            due("told no more", x.mapped(0), NO);
            due("told no more", x.count(8), NO);
            due("told again", x.cover(0), 0);
        }
        int[] want = {3, 4, 1, 3, 1, 11};
        for (int i = 0; i < 6; i++) {
            due("change " + i, left[i], want[i]);
        }
    }

    /** One of the calls marked (C). */
    private static int changed(CellCover x, int i) {
        switch (i) {
            case 0:
                return x.input();
            case 1:
                return x.gate(NAND, 0, 1, 0);
            case 2:
                return x.output(0);
            case 3:
                // The byte 'A' that was typed goes first.
                x.cell();
                return cell(x, "9 9Ia");
            case 4:
                return x.drop(3);
            default:
                return x.undo();
        }
    }

    private static void bests() {
        CellCover x = andWithThree();
        x.gate(NOT, 1, 0, 0);
        x.input();
        due("best without a cover", x.best(0, 0), NO);
        x.cover(0);
        for (int wrong : WRONG) {
            due("best(" + wrong + ", 0)", x.best(wrong, 0), BAD);
            due("best(3, " + wrong + ")", x.best(3, wrong), BAD);
        }
        due("best(6, 0)", x.best(6, 0), BAD);
        due("best(3, 9)", x.best(3, 9), BAD);
        int[] and = {3, 11, 0, 2, NONE, NONE, NONE, NONE, NONE};
        int[] nand = {2, 6, 1, 0, 1, NONE, NONE, NONE, NONE};
        int[] input = {0, 0, NONE, NONE, NONE, NONE, NONE, NONE, NONE};
        for (int what = 0; what < 9; what++) {
            due("best(3, " + what + ")", x.best(3, what), and[what]);
            due("best(2, " + what + ")", x.best(2, what), nand[what]);
            due("best(0, " + what + ")", x.best(0, what), input[what]);
            due("what does not live", x.best(4, what), NONE);
            due("an input that does not live", x.best(5, what), NONE);
        }
        x.undo();
        due("BAD is ahead of NO", x.best(9, 0), BAD);
        due("BAD is ahead of NO", x.best(0, 9), BAD);
    }

    private static void instances() {
        CellCover x = twoLevels();
        cell(x, "2 1Nba");
        due("instance without a cover", x.instance(0, 0), NO);
        due("BAD is ahead of NO", x.instance(0, 8), BAD);
        x.cover(0);
        for (int wrong : WRONG) {
            due("instance(0, " + wrong + ")", x.instance(0, wrong), BAD);
            due("instance(" + wrong + ", 0)", x.instance(wrong, 0), NONE);
        }
        due("instance(9, 8)", x.instance(9, 8), BAD);
        int[][] want = {
            {0, 6, 5, 4, NONE, NONE, NONE, NONE},
            {0, 5, 3, 2, NONE, NONE, NONE, NONE},
            {0, 4, 1, 0, NONE, NONE, NONE, NONE},
        };
        for (int i = 0; i < 3; i++) {
            for (int what = 0; what < 8; what++) {
                due("instance(" + i + ", " + what + ")", x.instance(i, what), want[i][what]);
            }
        }
        due("instance(3, 0)", x.instance(3, 0), NONE);
        x.output(4);
        x.cover(0);
        due("roots by numbers", x.instance(0, 1), 4);
        due("then the next root", x.instance(1, 1), 6);
        due("then what is beneath it", x.instance(2, 1), 5);
        due("each once", x.count(8), 3);
    }

    /** Each pin's vertex with all beneath it is ahead of the next pin's. */
    private static void instancesDeep() {
        CellCover x = withInputs(4);
        x.gate(AND, 0, 1, 0);
        x.gate(AND, 2, 3, 0);
        x.gate(NAND, 4, 5, 0);
        x.output(6);
        // 4 = N(0 1), 5 = I(4), 6 = N(2 3), 7 = I(6), 8 = N(5 7).
        cell(x, "1 1Ia");
        cell(x, "1 1Nab");
        x.cover(0);
        int[] order = {8, 5, 4, 7, 6};
        for (int i = 0; i < 5; i++) {
            due("instance(" + i + ", 1)", x.instance(i, 1), order[i]);
        }
        due("count(8)", x.count(8), 5);
        CellCover y = withInputs(1);
        for (int i = 1; i < 40; i++) {
            y.gate(AND, i - 1, i - 1, 0);
        }
        y.output(39);
        cell(y, "1 1Ia");
        cell(y, "1 1Nab");
        due("a chain", y.cover(1), 0);
        due("all its instances", y.count(8), 78);
        due("its arrival", y.arrival(0), 78);
    }

    private static void areasAndArrivals() {
        CellCover x = withInputs(3);
        x.gate(NAND, 0, 1, 0);
        x.gate(NOT, 3, 0, 0);
        x.gate(NAND, 3, 2, 0);
        x.output(4);
        x.output(5);
        x.output(0);
        due("area()", x.area(), NO);
        due("arrival(0)", x.arrival(0), NO);
        cell(x, "3 4Ia");
        cell(x, "5 7Nab");
        x.cover(0);
        for (int wrong : WRONG) {
            due("arrival(" + wrong + ")", x.arrival(wrong), BAD);
        }
        due("arrival(3)", x.arrival(3), BAD);
        due("a root inside is not counted", x.best(4, 0), 3);
        due("but it is waited for", x.arrival(0), 11);
        due("arrival(1)", x.arrival(1), 14);
        due("arrival(2)", x.arrival(2), 0);
        due("area()", x.area(), 13);
        x.undo();
        due("BAD is ahead of NO", x.arrival(3), BAD);
        due("arrival(1)", x.arrival(1), NO);
    }

    private static void worths() {
        CellCover x = andWithThree();
        int gone = cell(x, "1 1Ia");
        x.drop(gone);
        due("worth without a cover", x.worth(0), NO);
        due("BAD is ahead of NO", x.worth(gone), BAD);
        x.cover(0);
        for (int wrong : WRONG) {
            due("worth(" + wrong + ")", x.worth(wrong), BAD);
        }
        due("worth(4)", x.worth(4), BAD);
        due("a dropped cell", x.worth(gone), BAD);
        due("cheap: worth(0)", x.worth(0), 1);
        due("cheap: worth(1)", x.worth(1), 1);
        due("cheap: worth(2)", x.worth(2), 0);
        due("the cover stays", x.best(3, 2), 0);
        due("the cover stays", x.area(), 3);
        x.cover(1);
        due("fast: worth(0)", x.worth(0), 0);
        due("fast: worth(2)", x.worth(2), -1);
        due("the cover stays", x.instance(0, 0), 2);
        due("mapped() stays", x.mapped(3), 1);
        x.drop(0);
        x.cover(0);
        due("there would be no cover", x.worth(2), NONE);
        due("worth(1)", x.worth(1), 0);
    }

    private static void runs() {
        CellCover x = withInputs(3);
        for (int kind = AND; kind <= NOR; kind++) {
            x.gate(kind, 0, 1, 0);
            x.output(kind + 2);
        }
        x.gate(PICK, 0, 1, 2);
        x.output(8);
        x.gate(NOT, 2, 0, 0);
        x.output(9);
        for (int bits = 0; bits < 8; bits++) {
            boolean a = (bits & 1) != 0;
            boolean b = (bits & 2) != 0;
            boolean c = (bits & 4) != 0;
            boolean[] outputs = {a && b, a || b, a ^ b, !(a && b), !(a || b), a ? b : c, !c};
            int want = 0;
            for (int o = 0; o < outputs.length; o++) {
                want |= outputs[o] ? 1 << o : 0;
            }
            due("run(" + bits + ")", x.run(bits), want);
            due("bits above the inputs are free", x.run(bits | -8L), want);
        }
        CellCover y = withInputs(40);
        y.output(39);
        y.output(31);
        y.output(32);
        due("bit 39", y.run(1L << 39), 1);
        due("bit 31", y.run(1L << 31), 2);
        due("bit 32", y.run(1L << 32), 4);
        due("all but 39", y.run(~(1L << 39)), 6);
        y.cover(0);
        due("mapped bit 39", y.mapped(1L << 39), 1);
        due("mapped all but 39", y.mapped(~(1L << 39)), 6);
    }

    private static void mappedRuns() {
        CellCover x = withInputs(1);
        x.gate(NOT, 0, 0, 0);
        x.input();
        x.input();
        x.gate(XOR, 0, 2, 0);
        x.gate(XOR, 4, 3, 0);
        x.gate(PICK, 4, 3, 0);
        x.gate(NOR, 1, 5, 0);
        x.gate(OR, 1, 6, 0);
        x.output(5);
        x.output(6);
        x.output(7);
        x.output(1);
        x.output(2);
        x.output(8);
        due("mapped(0) without a cover", x.mapped(0), NO);
        cell(x, "2 2Ia");
        cell(x, "3 3Nab");
        cell(x, "4 1INab");
        cell(x, "4 2NNacNcb");
        cell(x, "3 1NIaIb");
        cell(x, "4 4NNabNIac");
        for (int how = 0; how < 2; how++) {
            due("cover", x.cover(how), 0);
            for (int bits = 0; bits < 8; bits++) {
                due("mapped(" + bits + ")", x.mapped(bits), x.run(bits));
            }
        }
        int sum = x.run(7) & 3;
        due("one and one and one", sum, 3);
    }

    private static void abouts() {
        CellCover x = new CellCover();
        int c = cell(x, "12 3NNaINbdIf");
        int gone = cell(x, "1 1Ia");
        x.drop(gone);
        for (int wrong : WRONG) {
            due("about(" + wrong + ", 0, 0)", x.about(wrong, 0, 0), BAD);
            due("about(0, " + wrong + ", 0)", x.about(c, wrong, 0), BAD);
            due("about(0, 4, " + wrong + ")", x.about(c, 4, wrong), BAD);
            due("x is looked at for 4 alone", x.about(c, 0, wrong), 12);
        }
        due("a dropped cell", x.about(gone, 0, 0), BAD);
        due("about(0, 5, 0)", x.about(c, 5, 0), BAD);
        due("about(0, 4, 64)", x.about(c, 4, 64), BAD);
        due("delay", x.about(c, 1, 64), 3);
        due("symbols", x.about(c, 2, -1), 9);
        due("pins", x.about(c, 3, 99), 1 | 2 | 8 | 32);
        for (int bits = 0; bits < 64; bits++) {
            boolean a = (bits & 1) != 0;
            boolean b = (bits & 2) != 0;
            boolean d = (bits & 8) != 0;
            boolean f = (bits & 32) != 0;
            boolean left = !(a && b && d);
            due("about(0, 4, " + bits + ")", x.about(c, 4, bits), left && !f ? 0 : 1);
        }
    }

    private static void counts() {
        CellCover x = andWithThree();
        x.input();
        x.gate(NOT, 0, 0, 0);
        x.drop(1);
        x.type(0x313131, 3);
        int[] want = {5, 3, 1, 6, 4, 1, 2, 3, NO};
        for (int what = 0; what < 9; what++) {
            due("count(" + what + ")", x.count(what), want[what]);
        }
        x.cover(0);
        due("count(8)", x.count(8), 1);
        for (int wrong : WRONG) {
            due("count(" + wrong + ")", x.count(wrong), BAD);
        }
        due("count(9)", x.count(9), BAD);
    }

    private static long folded(long... values) {
        long h = 13;
        for (long v : values) {
            h = 31 * h + v;
        }
        return h;
    }

    private static void digests() {
        CellCover x = new CellCover();
        x.input();
        due("digest() of an input", x.digest(), folded(0, -4, -4, 0, 0, 0));
        x.gate(NOT, 0, 0, 0);
        x.gate(NAND, 1, 0, 0);
        x.output(2);
        x.output(0);
        x.output(2);
        long[] net = {
            0, -4, -4, 3, 0, 1,
            1, 0, -4, 1, 0, 1,
            2, 1, 0, 2, 1, 1,
            2, 0, 2,
        };
        due("digest() of a net", x.digest(), folded(net));
        cell(x, "12 34Ia");
        cell(x, "56 78Nab");
        x.drop(0);
        long[] all = java.util.Arrays.copyOf(net, net.length + 6);
        long[] cells = {0, 12, 34, 1, 56, 78};
        System.arraycopy(cells, 0, all, net.length, 6);
        due("digest() with cells", x.digest(), folded(all));
        x.type(49, 1);
        x.cover(0);
        due("the tape does not count", x.digest(), folded(all));
    }

    private static void readmeExample() {
        CellCover x = new CellCover();
        int a = x.input();
        int b = x.input();
        int and = x.gate(AND, a, b, 0);
        x.output(and);
        x.type(0x312031496120L, 6);
        due("inverter", x.cell(), 0);
        x.type(0x322031_4e6162L, 6);
        due("nand", x.cell(), 1);
        due("cover(0)", x.cover(0), 0);
        due("area()", x.area(), 3);
        due("instance(0, 0)", x.instance(0, 0), 0);
        due("mapped(3)", x.mapped(3), 1);
        due("run(3)", x.run(3), 1);
    }
}
