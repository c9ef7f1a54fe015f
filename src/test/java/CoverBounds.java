/** Sentences of covers and of what is told of them: Terms 4, promises 14 to 19. */
final class CoverBounds {
    private static final int BAD = -1, NO = -2, FULL = -3, NONE = -4;
    private static final int NOT = 0, AND = 1, OR = 2, XOR = 3, NAND = 4, NOR = 5, PICK = 6;
    private static final int[] FAR = {Integer.MIN_VALUE, Integer.MIN_VALUE + 1, -101, -4, 160, 1 << 16, Integer.MAX_VALUE};

    private final Sentences s;

    CoverBounds(Sentences s) {
        this.s = s;
    }

    void all() {
        manners();
        inputsCostNothing();
        firstThatIsBest();
        laterMatchIsBest();
        areasOfMatches();
        arrivalsOfMatches();
        cheapest();
        fastest();
        pinsHaveOne();
        rootsWithout();
        rootsByNumbers();
        pinsByLetters();
        firstAndLastLetter();
        instancesInOrder();
        areaOfTheCover();
        refusedInOrder();
        refusedChangesNothing();
        toldFromTo();
        coverPromise();
        coverRefused();
        bestPromise();
        bestRefused();
        instancePromise();
        instanceRefused();
        areaPromise();
        arrivalPromise();
        worthPromise();
        worthRefused();
    }

    /** Vertices 2 = N(0 1), 3 = I(2), which is output 0; cells 0 inverse, 1 nand, 2 and. */
    private static CellCover and() {
        CellCover x = Checks.withInputs(2);
        x.gate(AND, 0, 1, 0);
        x.output(2);
        Checks.cellOf(x, "1 5Ia");
        Checks.cellOf(x, "2 6Nab");
        Checks.cellOf(x, "4 1INab");
        return x;
    }

    /** One nand of two inputs, vertex 2. */
    private static CellCover nand(String... cells) {
        CellCover x = Checks.withInputs(2);
        x.gate(NAND, 0, 1, 0);
        x.output(2);
        for (String text : cells) {
            Checks.cellOf(x, text);
        }
        return x;
    }

    private void manners() {
        s.says("Terms 4: A COVER, how: 0 CHEAP, 1 FAST.");
        CellCover x = and();
        s.due("cover(-1)", x.cover(-1), BAD);
        s.due("cover(0)", x.cover(0), 0);
        s.due("cheap", x.area() * 100 + x.arrival(0), 311);
        s.due("cover(1)", x.cover(1), 0);
        s.due("fast", x.area() * 100 + x.arrival(0), 401);
        s.due("cover(2)", x.cover(2), BAD);
    }

    private void inputsCostNothing() {
        s.says("Terms 4: For each VERTEX that LIVES, by numbers: an INPUT: AREA and ARRIVAL 0.");
        CellCover x = Checks.withInputs(2);
        x.output(0);
        s.due("without cells", x.cover(0), 0);
        s.due("area of an input", x.best(0, 0), 0);
        s.due("arrival of an input", x.best(0, 1), 0);
        s.due("an input that does not live", x.best(1, 0), NONE);
        s.due("area()", x.area(), 0);
        s.due("arrival(0)", x.arrival(0), 0);
        s.due("count(8)", x.count(8), 0);
        CellCover none = new CellCover();
        s.due("of an empty net", none.cover(1), 0);
        s.due("area()", none.area(), 0);
        // Vertex 1 is an I with an area at first, then an input.
        CellCover y = Checks.withInputs(1);
        y.gate(NOT, 0, 0, 0);
        y.output(1);
        Checks.cellOf(y, "3 4Ia");
        y.cover(0);
        s.due("an I", y.best(1, 0) * 10 + y.best(1, 1), 34);
        y.undo();
        y.undo();
        y.undo();
        y.input();
        y.gate(NAND, 0, 1, 0);
        y.output(2);
        Checks.cellOf(y, "5 6Nab");
        y.cover(0);
        s.due("area of the input in its place", y.best(1, 0), 0);
        s.due("arrival of the input in its place", y.best(1, 1), 0);
        s.due("area()", y.area(), 5);
        s.due("arrival(0)", y.arrival(0), 6);
    }

    private void firstThatIsBest() {
        s.says("Terms 4: Else of all CELLS that are there, by numbers, of all their MATCHES the first that is best;");
        CellCover x = nand("2 3Nab", "2 3Nba", "2 3Nab");
        for (int how = 0; how < 2; how++) {
            x.cover(how);
            s.due("the first cell", x.best(2, 2), 0);
            s.due("its first match, a", x.best(2, 3), 0);
            s.due("its first match, b", x.best(2, 4), 1);
        }
        x.drop(0);
        x.cover(0);
        s.due("the first that is there", x.best(2, 2), 1);
        s.due("its first match, a", x.best(2, 3), 1);
        x.drop(1);
        x.drop(2);
        s.due("none is there", x.cover(0), -102);
        x.undo();
        x.cover(0);
        s.due("the last one is there again", x.best(2, 2), 2);
    }

    /** 4 = I(3), 5 = N(4 2), 6 = N(0 1), 7 = N(5 6): cell 3 has its third match as the best, the fourth being as good. */
    private void laterMatchIsBest() {
        s.says("Terms 4: of all their MATCHES the first that is best;");
        CellCover x = Checks.withInputs(4);
        x.gate(NOT, 3, 0, 0);
        x.gate(NAND, 4, 2, 0);
        x.gate(NAND, 0, 1, 0);
        x.gate(NAND, 5, 6, 0);
        x.output(7);
        Checks.cellOf(x, "1 1Ia");
        Checks.cellOf(x, "10 1Nab");
        Checks.cellOf(x, "3 1NIab");
        Checks.cellOf(x, "5 1NNabc");
        x.cover(0);
        s.due("matches", x.matches(3, 7), 4);
        s.due("area", x.best(7, 0), 8);
        s.due("cell", x.best(7, 2), 3);
        s.due("a", x.best(7, 3), 0);
        s.due("b", x.best(7, 4), 1);
        s.due("c", x.best(7, 5), 5);
    }

    private void areasOfMatches() {
        s.says("Terms 4: AREA: that of the CELL, and of each PIN's VERTEX (each letter once) that is no ROOT its AREA;");
        CellCover x = Checks.withInputs(3);
        x.gate(NAND, 0, 1, 0);
        x.gate(NAND, 3, 2, 0);
        x.output(4);
        Checks.cellOf(x, "10 1Nab");
        x.cover(0);
        s.due("a part that is no root", x.best(4, 0), 20);
        x.output(3);
        x.cover(0);
        s.due("a part that is a root", x.best(4, 0), 10);
        s.due("area() has both", x.area(), 20);
        // 1 = N(0 0), 2 = N(1 1): what one letter has in two places is an input or a root.
        CellCover y = Checks.withInputs(1);
        y.gate(NAND, 0, 0, 0);
        y.gate(NAND, 1, 1, 0);
        y.output(2);
        Checks.cellOf(y, "7 1Naa");
        y.cover(0);
        s.due("one letter in two places, on a root", y.best(2, 0), 7);
        s.due("and on an input", y.best(1, 0), 7);
        s.due("area()", y.area(), 14);
    }

    private void arrivalsOfMatches() {
        s.says("Terms 4: ARRIVAL: the DELAY and the greatest of its PINS' VERTICES' ARRIVALS.");
        CellCover x = Checks.withInputs(3);
        x.gate(NOT, 0, 0, 0);
        x.gate(NAND, 3, 1, 0);
        x.gate(NAND, 4, 3, 0);
        x.output(5);
        x.output(4);
        // 3 = I(0) arrives at 99, 4 = N(3 1) at 99 + 7, 5 = N(4 3) at 99 + 7 + 7.
        Checks.cellOf(x, "1 99Ia");
        Checks.cellOf(x, "1 7Nab");
        x.cover(0);
        s.due("the delay alone, of an input", x.best(3, 1), 99);
        s.due("the first part later", x.best(4, 1), 106);
        s.due("roots are waited for", x.arrival(0), 113);
        s.due("output 1", x.arrival(1), 106);
        CellCover zero = nand("1 0Nab");
        zero.cover(1);
        s.due("a delay of 0", zero.arrival(0), 0);
        // The second part is the later one.
        CellCover y = Checks.withInputs(2);
        y.gate(NOT, 0, 0, 0);
        y.gate(NAND, 1, 2, 0);
        y.output(3);
        Checks.cellOf(y, "1 9Ia");
        Checks.cellOf(y, "1 1Nab");
        y.cover(0);
        s.due("the second part later", y.best(3, 1), 10);
    }

    private void cheapest() {
        s.says("Terms 4: CHEAP: the least AREA, of these the least ARRIVAL;");
        CellCover x = nand("3 1Nab", "2 9Nab", "2 8Nab", "2 8Nba", "2 9Nab");
        x.cover(0);
        s.due("the cell", x.best(2, 2), 2);
        s.due("area", x.best(2, 0), 2);
        s.due("arrival", x.best(2, 1), 8);
    }

    private void fastest() {
        s.says("Terms 4: FAST: the least ARRIVAL, of these the least AREA.");
        CellCover x = nand("1 3Nab", "9 2Nab", "8 2Nab", "8 2Nba", "9 2Nab");
        x.cover(1);
        s.due("the cell", x.best(2, 2), 2);
        s.due("area", x.best(2, 0), 8);
        s.due("arrival", x.best(2, 1), 2);
    }

    private void pinsHaveOne() {
        s.says("Terms 4: A MATCH counts only if all its PINS' VERTICES have one of their own.");
        CellCover x = Checks.withInputs(2);
        x.gate(AND, 0, 1, 0);
        x.output(2);
        Checks.cellOf(x, "1 1Ia");
        s.due("its pin lies on an N, and there is no N", x.cover(0), -103);
        Checks.cellOf(x, "9 9INab");
        s.due("its pins lie on inputs", x.cover(0), 0);
        s.due("the dearer one, as the cheaper does not count", x.best(3, 2), 1);
        s.due("the N inside has none", x.best(2, 2), NONE);
        Checks.cellOf(x, "1 1Nab");
        s.due("now it has", x.cover(0), 0);
        s.due("the cheaper one counts", x.best(3, 2), 0);
    }

    private void rootsWithout() {
        s.says("Terms 4: If a ROOT has none, there is no COVER.");
        CellCover x = and();
        x.gate(NOT, 0, 0, 0);
        s.due("what does not live needs none", x.cover(0), 0);
        x.drop(0);
        x.drop(1);
        s.due("what is no root needs none", x.cover(0), 0);
        s.due("it has none", x.best(2, 2), NONE);
        s.due("the root has one", x.best(3, 2), 2);
        x.drop(2);
        s.due("a root has none", x.cover(0), -103);
        s.due("no cover", x.area(), NO);
        s.due("nor fast", x.cover(1), -103);
        x.undo();
        s.due("there is one again", x.cover(1), 0);
    }

    /** Vertices 2 = N(0 1), 3 = I(2), 4 = I(0), 5 = I(1), 6 = N(4 5), 7 = I(6): 7 is output 0, 3 output 1. */
    private static CellCover andNor() {
        CellCover x = Checks.withInputs(2);
        x.gate(AND, 0, 1, 0);
        x.gate(NOR, 0, 1, 0);
        x.output(3);
        x.output(2);
        return x;
    }

    private void rootsByNumbers() {
        s.says("Terms 4: THE MAPPED NET: ROOTS by numbers;");
        CellCover x = andNor();
        Checks.cellOf(x, "1 1INab");
        Checks.cellOf(x, "1 1INIaIb");
        s.due("cover(0)", x.cover(0), 0);
        s.due("the lower root, though the later output", x.instance(0, 1), 3);
        s.due("the higher root", x.instance(1, 1), 7);
        s.due("no more", x.instance(2, 1), NONE);
    }

    private void pinsByLetters() {
        s.says("Terms 4: of each the CELL of its MATCH, then, by letters, of each PIN's VERTEX that is neither INPUT nor ROOT, and does not stand in it yet, likewise, each with all beneath it ahead of the next PIN's.");
        CellCover x = Checks.withInputs(4);
        x.gate(AND, 0, 1, 0);
        x.gate(AND, 2, 3, 0);
        x.gate(NAND, 4, 5, 0);
        x.output(6);
        // 4 = N(0 1), 5 = I(4), 6 = N(2 3), 7 = I(6), 8 = N(5 7).
        Checks.cellOf(x, "1 1Ia");
        Checks.cellOf(x, "1 1Nba");
        x.cover(0);
        // a lies on the second part.
        int[] order = {8, 7, 6, 5, 4};
        for (int i = 0; i < 5; i++) {
            s.due("instance(" + i + ", 1)", x.instance(i, 1), order[i]);
        }
        s.due("count(8)", x.count(8), 5);
        x.output(4);
        x.cover(0);
        // 5 is a root now, and stands once, with what is beneath it, in its own place.
        int[] cut = {5, 4, 8, 7, 6};
        for (int i = 0; i < 5; i++) {
            s.due("with a root, instance(" + i + ", 1)", x.instance(i, 1), cut[i]);
        }
        s.due("count(8)", x.count(8), 5);
    }

    /** N(N(0 1) N(2 3)) by a cell with the pins f and a: a's instances are ahead of f's. */
    private void firstAndLastLetter() {
        s.says("Terms 4: then, by letters, of each PIN's VERTEX");
        CellCover x = Checks.withInputs(4);
        x.gate(NAND, 0, 1, 0);
        x.gate(NAND, 2, 3, 0);
        x.gate(NAND, 4, 5, 0);
        x.output(6);
        Checks.cellOf(x, "1 1Nfa");
        x.cover(0);
        int[] order = {6, 5, 4};
        for (int i = 0; i < 3; i++) {
            s.due("instance(" + i + ", 1)", x.instance(i, 1), order[i]);
        }
        s.due("count(8)", x.count(8), 3);
        s.due("area()", x.area(), 3);
        s.due("mapped(15)", x.mapped(15), 1);
        s.due("mapped(10)", x.mapped(10), 0);
    }

    private void instancesInOrder() {
        s.says("Terms 4: These are its INSTANCES, in this order.");
        CellCover x = and();
        x.cover(0);
        s.due("the root's", x.instance(0, 0), 0);
        s.due("what is beneath", x.instance(1, 0), 1);
        s.due("count(8)", x.count(8), 2);
        x.cover(1);
        s.due("the root's", x.instance(0, 0), 2);
        s.due("nothing beneath", x.instance(1, 0), NONE);
        s.due("count(8)", x.count(8), 1);
    }

    private void areaOfTheCover() {
        s.says("Terms 4: The AREA of the COVER is that of all INSTANCES' CELLS.");
        CellCover x = Checks.withInputs(3);
        x.gate(NAND, 0, 1, 0);
        x.gate(NOT, 3, 0, 0);
        x.gate(NAND, 3, 2, 0);
        x.output(4);
        x.output(5);
        x.output(4);
        Checks.cellOf(x, "3 4Ia");
        Checks.cellOf(x, "50 7Nab");
        x.cover(0);
        s.due("the shared one once, two outputs of one once", x.area(), 103);
        CellCover y = Checks.withInputs(1);
        for (int i = 1; i < 40; i++) {
            y.gate(AND, i - 1, i - 1, 0);
        }
        y.output(39);
        Checks.cellOf(y, "999 99Ia");
        Checks.cellOf(y, "999 99Naa");
        y.cover(1);
        s.due("78 of 999", y.area(), 78 * 999);
        s.due("78 of 99", y.arrival(0), 78 * 99);
        s.due("best(.., 0) has no root beneath it", y.best(78, 0), 2 * 999);
    }

    private void refusedInOrder() {
        s.says("Terms 4: Refused, and nothing changes, is, of several the first: BAD -1 a number is not as told; NO -2 as told; FULL -3; NONE -4 there is none.");
        s.due("BAD", CellCover.BAD, -1);
        s.due("NO", CellCover.NO, -2);
        s.due("FULL", CellCover.FULL, -3);
        s.due("NONE", CellCover.NONE, -4);
        CellCover x = and();
        s.due("best: BAD ahead of NO", x.best(4, 0), BAD);
        s.due("best: BAD ahead of NO", x.best(0, 9), BAD);
        s.due("best: NO ahead of NONE", x.best(0, 2), NO);
        s.due("instance: BAD ahead of NO", x.instance(0, 8), BAD);
        s.due("instance: NO ahead of NONE", x.instance(99, 0), NO);
        s.due("arrival: BAD ahead of NO", x.arrival(1), BAD);
        s.due("arrival: NO", x.arrival(0), NO);
        s.due("worth: BAD ahead of NO", x.worth(3), BAD);
        s.due("worth: NO ahead of NONE", x.worth(1), NO);
        x.cover(0);
        s.due("best: BAD ahead of NONE", x.best(0, 9), BAD);
        s.due("instance: BAD ahead of NONE", x.instance(99, 8), BAD);
        s.due("match: BAD ahead of NONE", x.match(0, 3, 99, 6), BAD);
    }

    /** A net and a library that are full, so that each refusal can be had. */
    private static CellCover full() {
        CellCover x = Checks.withInputs(2);
        for (int i = 2; i < 40; i++) {
            x.gate(i % 2 == 0 ? NAND : NOT, i - 1, i - 2, 0);
        }
        for (int i = 0; i < 8; i++) {
            x.output(39 - i);
        }
        for (int i = 0; i < 20; i++) {
            Checks.cellOf(x, i % 2 == 0 ? "1 1Ia" : "2 2Nab");
        }
        x.drop(18);
        Checks.typeText(x, "0".repeat(60));
        x.cover(0);
        return x;
    }

    private void refusedChangesNothing() {
        s.says("Terms 4: Refused, and nothing changes");
        CellCover x = full();
        CellCover twin = full();
        int[] got = {
            x.input(), x.gate(NAND, 0, 1, 0), x.gate(7, 0, 1, 0), x.gate(NOT, 40, 0, 0), x.output(0), x.output(40),
            x.type(49, 1), x.type(49, 0), x.cell(), x.drop(18), x.drop(20), x.vertexOf(40), x.vertex(-1, 0),
            x.matches(18, 0), x.match(0, 0, 0, 6), x.match(0, 2, 99, 0), x.cover(2), x.best(0, 9), x.best(0, 2),
            x.instance(0, 8), x.instance(999, 0), x.arrival(8), x.worth(18), x.worth(20), x.about(18, 0, 0), x.count(9),
        };
        int[] want = {
            FULL, FULL, BAD, BAD, FULL, BAD, FULL, BAD, FULL, BAD, BAD, BAD, BAD, BAD, BAD, NONE, BAD, BAD, NONE, BAD,
            NONE, BAD, BAD, BAD, BAD, BAD,
        };
        for (int i = 0; i < want.length; i++) {
            s.due("refused call " + i, got[i], want[i]);
        }
        for (int what = 0; what <= 8; what++) {
            s.due("count(" + what + ")", x.count(what), twin.count(what));
        }
        s.due("digest()", x.digest(), twin.digest());
        s.due("area()", x.area(), twin.area());
        s.due("mapped(2)", x.mapped(2), twin.mapped(2));
        s.due("fault()", x.fault(), 0);
        for (int left = 68; left >= 0; left--) {
            s.due("undo()", x.undo(), left);
            s.due("the twin's undo()", twin.undo(), left);
            s.due("digest()", x.digest(), twin.digest());
        }
    }

    private void toldFromTo() {
        s.says("Terms 4: What is told of a COVER is so from cover() that answered 0 on, till the next call marked (C): NO else.");
        CellCover x = and();
        isTold(x, false);
        s.due("cover(2)", x.cover(2), BAD);
        isTold(x, false);
        s.due("cover(0)", x.cover(0), 0);
        isTold(x, true);
        for (int i = 0; i < 17; i++) {
            unmarked(x, i);
            isTold(x, true);
        }
        for (int i = 0; i < 6; i++) {
            s.due("marked call " + i, marked(x, i) >= 0 ? 1 : 0, 1);
            isTold(x, false);
            s.due("cover(0)", x.cover(0), 0);
        }
        s.due("undo() of what it was", x.undo() >= 0 ? 1 : 0, 1);
        isTold(x, false);
    }

    private void isTold(CellCover x, boolean told) {
        s.due("best", x.best(3, 0), told ? 3 : NO);
        s.due("instance", x.instance(0, 1), told ? 3 : NO);
        s.due("area", x.area(), told ? 3 : NO);
        s.due("arrival", x.arrival(0), told ? 11 : NO);
        s.due("worth", x.worth(0), told ? 1 : NO);
        s.due("mapped", x.mapped(3), told ? 1 : NO);
        s.due("count(8)", x.count(8), told ? 2 : NO);
    }

    /** A call that is not marked (C), or is and is refused. */
    private static void unmarked(CellCover x, int i) {
        switch (i) {
            case 0 -> x.type(48, 1);
            case 1 -> x.cell();
            case 2 -> x.fault();
            case 3 -> x.vertexOf(0);
            case 4 -> x.vertex(0, 0);
            case 5 -> x.matches(0, 3);
            case 6 -> x.match(0, 3, 0, 0);
            case 7 -> x.cover(-1);
            case 8 -> x.worth(1);
            case 9 -> x.run(3);
            case 10 -> x.about(0, 4, 0);
            case 11 -> x.count(3);
            case 12 -> x.digest();
            case 13 -> x.gate(9, 0, 0, 0);
            case 14 -> x.output(-1);
            case 15 -> x.drop(9);
            default -> x.cover(0);
        }
    }

    private static int marked(CellCover x, int i) {
        return switch (i) {
            case 0 -> x.input();
            case 1 -> x.gate(OR, 0, 1, 0);
            case 2 -> x.output(0);
            case 3 -> Checks.cellOf(x, "9 9Ia");
            case 4 -> x.drop(3);
            default -> x.undo();
        };
    }

    private void coverPromise() {
        s.says("Promise 14: A COVER: 0.");
        CellCover x = and();
        s.due("cover(0)", x.cover(0), 0);
        s.due("cover(0) again", x.cover(0), 0);
        s.due("cover(1) from there", x.cover(1), 0);
        s.due("fast", x.area(), 4);
        s.due("cover(0) from there", x.cover(0), 0);
        s.due("cheap", x.area(), 3);
        s.due("of an empty net", new CellCover().cover(0), 0);
    }

    private void coverRefused() {
        s.says("Promise 14: BAD: how;");
        CellCover x = and();
        for (int far : FAR) {
            s.due("cover(" + far + ")", x.cover(far), BAD);
        }
        s.due("cover(-1)", x.cover(-1), BAD);
        s.due("cover(2)", x.cover(2), BAD);
        s.due("no cover of that", x.area(), NO);
        x.cover(1);
        s.due("cover(2)", x.cover(2), BAD);
        s.due("the cover stays", x.area(), 4);
        s.due("and stays fast", x.worth(2), -1);
        s.says("Promise 14: -100 less the least ROOT that has none.");
        CellCover y = andNor();
        s.due("BAD is ahead of it", y.cover(2), BAD);
        s.due("both have none", y.cover(0), -103);
        Checks.cellOf(y, "1 1INIaIb");
        s.due("the lower has none", y.cover(1), -103);
        Checks.cellOf(y, "1 1INab");
        s.due("both have one", y.cover(0), 0);
        y.drop(0);
        s.due("the higher has none", y.cover(0), -107);
        s.due("no cover", y.count(8), NO);
        CellCover most = Checks.withInputs(1);
        most.gate(PICK, 0, 0, 0);
        for (int i = 2; i < 39; i++) {
            most.gate(XOR, i - 2, i - 1, 0);
        }
        most.gate(AND, 37, 38, 0);
        most.output(39);
        Checks.cellOf(most, "1 1Nab");
        Checks.cellOf(most, "1 1NIab");
        s.due("only the last of many has none", most.cover(0), -100 - most.vertexOf(39));
        s.due("it is vertex 154", most.vertexOf(39), 154);
    }

    private void bestPromise() {
        s.says("Promise 15: Of a VERTEX in the COVER: 0 AREA, 1 ARRIVAL, 2 the CELL of its MATCH (NONE of INPUTS), 3 .. 8 on which VERTICES its PINS a .. f lie (NONE).");
        CellCover x = and();
        x.cover(0);
        int[] inverse = {3, 11, 0, 2, NONE, NONE, NONE, NONE, NONE};
        int[] nand = {2, 6, 1, 0, 1, NONE, NONE, NONE, NONE};
        int[] input = {0, 0, NONE, NONE, NONE, NONE, NONE, NONE, NONE};
        for (int what = 0; what <= 8; what++) {
            s.due("best(3, " + what + ")", x.best(3, what), inverse[what]);
            s.due("best(2, " + what + ")", x.best(2, what), nand[what]);
            s.due("best(1, " + what + ")", x.best(1, what), input[what]);
        }
        CellCover y = nand("5 6Nfc");
        y.cover(1);
        int[] pins = {5, 6, 0, NONE, NONE, 1, NONE, NONE, 0};
        for (int what = 0; what <= 8; what++) {
            s.due("pins c and f, best(2, " + what + ")", y.best(2, what), pins[what]);
        }
    }

    private void bestRefused() {
        s.says("Promise 15: BAD; NO; NONE: it has no MATCH, or does not LIVE.");
        CellCover x = and();
        s.due("NO without a cover", x.best(3, 0), NO);
        s.due("NO of an input, too", x.best(0, 0), NO);
        s.due("BAD ahead of it: vertex 4", x.best(4, 0), BAD);
        s.due("BAD ahead of it: what 9", x.best(3, 9), BAD);
        x.gate(NOT, 0, 0, 0);
        x.input();
        x.drop(1);
        x.cover(0);
        s.due("the root has one", x.best(3, 2), 2);
        for (int what = 0; what <= 8; what++) {
            s.due("no match", x.best(2, what), NONE);
            s.due("does not live", x.best(4, what), NONE);
            s.due("an input that does not live", x.best(5, what), NONE);
        }
        s.due("vertex -1", x.best(-1, 0), BAD);
        s.due("vertex 6", x.best(6, 0), BAD);
        s.due("what -1", x.best(3, -1), BAD);
        s.due("what 8", x.best(3, 8), NONE);
        s.due("what 9", x.best(3, 9), BAD);
        s.due("BAD ahead of NONE", x.best(4, 9), BAD);
        for (int far : FAR) {
            s.due("vertex " + far, x.best(far, 0), BAD);
            s.due("what " + far, x.best(0, far), BAD);
        }
    }

    private void instancePromise() {
        s.says("Promise 16: Of INSTANCE i: 0 the CELL, 1 the VERTEX that it gives, 2 .. 7 those on which PINS a .. f lie (NONE).");
        CellCover x = and();
        x.cover(0);
        int[][] want = {{0, 3, 2, NONE, NONE, NONE, NONE, NONE}, {1, 2, 0, 1, NONE, NONE, NONE, NONE}};
        for (int i = 0; i < 2; i++) {
            for (int what = 0; what <= 7; what++) {
                s.due("instance(" + i + ", " + what + ")", x.instance(i, what), want[i][what]);
            }
        }
        CellCover y = nand("5 6Nfc");
        y.cover(0);
        int[] pins = {0, 2, NONE, NONE, 1, NONE, NONE, 0};
        for (int what = 0; what <= 7; what++) {
            s.due("pins c and f, instance(0, " + what + ")", y.instance(0, what), pins[what]);
        }
    }

    private void instanceRefused() {
        s.says("Promise 16: BAD: what; NO; NONE: not so many.");
        CellCover x = and();
        s.due("NO without a cover", x.instance(0, 0), NO);
        s.due("NO is ahead of NONE", x.instance(9, 0), NO);
        s.due("BAD is ahead of NO: 8", x.instance(0, 8), BAD);
        s.due("BAD is ahead of NO: -1", x.instance(0, -1), BAD);
        x.cover(0);
        s.due("what -1", x.instance(0, -1), BAD);
        s.due("what 0", x.instance(0, 0), 0);
        s.due("what 7", x.instance(0, 7), NONE);
        s.due("what 8", x.instance(0, 8), BAD);
        s.due("BAD is ahead of NONE", x.instance(2, 8), BAD);
        for (int what = 0; what <= 7; what++) {
            s.due("instance 2", x.instance(2, what), NONE);
            s.due("instance -1", x.instance(-1, what), NONE);
        }
        for (int far : FAR) {
            s.due("instance " + far, x.instance(far, 0), NONE);
            s.due("what " + far, x.instance(0, far), BAD);
        }
        CellCover none = new CellCover();
        none.cover(0);
        s.due("of none", none.instance(0, 0), NONE);
    }

    private void areaPromise() {
        s.says("Promise 17: The AREA of the COVER. NO.");
        CellCover x = and();
        s.due("no cover", x.area(), NO);
        x.cover(0);
        s.due("cheap", x.area(), 3);
        x.cover(1);
        s.due("fast", x.area(), 4);
        x.input();
        s.due("no more", x.area(), NO);
        CellCover none = new CellCover();
        s.due("of nothing, without a cover", none.area(), NO);
        none.cover(0);
        s.due("of nothing", none.area(), 0);
    }

    private void arrivalPromise() {
        s.says("Promise 18: The ARRIVAL of an OUTPUT.");
        CellCover x = and();
        x.output(0);
        x.gate(NAND, 0, 1, 0);
        x.output(3);
        x.cover(0);
        s.due("output 0, above the root that is output 2", x.arrival(0), 11);
        s.due("output 1, an input", x.arrival(1), 0);
        s.due("output 2", x.arrival(2), 6);
        s.says("Promise 18: BAD; NO.");
        s.due("output 3", x.arrival(3), BAD);
        s.due("output -1", x.arrival(-1), BAD);
        for (int far : FAR) {
            s.due("output " + far, x.arrival(far), BAD);
        }
        for (int i = 3; i < 8; i++) {
            s.due("outputs up to 7", x.output(0), i);
        }
        s.due("NO of output 7", x.arrival(7), NO);
        s.due("BAD is ahead of NO", x.arrival(8), BAD);
        x.cover(0);
        s.due("output 7", x.arrival(7), 0);
        s.due("output 8", x.arrival(8), BAD);
        CellCover none = new CellCover();
        none.cover(0);
        s.due("there are no outputs", none.arrival(0), BAD);
    }

    private void worthPromise() {
        s.says("Promise 19: The COVER's AREA if a CELL were dropped, made in the same way, less what it is.");
        CellCover x = and();
        Checks.cellOf(x, "9 9Ia");
        x.cover(0);
        s.due("cheap, of one that is used", x.worth(0), 1);
        s.due("cheap, of one that is not used", x.worth(2), 0);
        s.due("cheap, of the last", x.worth(3), 0);
        x.cover(1);
        s.due("fast: it is cheaper without", x.worth(2), -1);
        s.due("fast, of one that is not used", x.worth(0), 0);
        s.due("it is not dropped", x.count(6), 4);
        s.due("the cover stays: area", x.area(), 4);
        s.due("the cover stays: cell", x.instance(0, 0), 2);
        s.due("the cover stays: count(8)", x.count(8), 1);
        s.due("the cover stays: arrival", x.arrival(0), 1);
        s.due("the cover stays: mapped", x.mapped(3), 1);
        s.due("asked again", x.worth(2), -1);
    }

    private void worthRefused() {
        s.says("Promise 19: BAD: also it is dropped; NO; NONE: there would be no COVER.");
        CellCover x = and();
        s.due("NO without a cover", x.worth(0), NO);
        s.due("BAD is ahead of NO", x.worth(3), BAD);
        x.drop(0);
        s.due("BAD is ahead of NO, dropped", x.worth(0), BAD);
        x.cover(0);
        s.due("dropped", x.worth(0), BAD);
        s.due("cell -1", x.worth(-1), BAD);
        s.due("cell 3", x.worth(3), BAD);
        for (int far : FAR) {
            s.due("cell " + far, x.worth(far), BAD);
        }
        s.due("there would be one", x.worth(1), 0);
        s.due("there would be none", x.worth(2), NONE);
        s.due("the cover stays", x.area(), 4);
        s.due("the cover stays", x.best(3, 2), 2);
        x.undo();
        x.cover(0);
        s.due("there would be one now", x.worth(2), 0);
        s.due("BAD no more", x.worth(0), 1);
    }
}
