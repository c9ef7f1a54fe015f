/** Sentences of the tape, the texts and the library: Terms 3 as far as faults, promises 5 to 9. */
final class TextBounds {
    private static final int BAD = -1, NO = -2, FULL = -3;
    private static final int NOT = 0, AND = 1, NAND = 4;
    private static final int[] FAR = {Integer.MIN_VALUE, Integer.MIN_VALUE + 1, -4, 61, 1 << 16, Integer.MAX_VALUE};
    private static final long BLANKS = 0x2020202020202020L;

    private final Sentences s;

    TextBounds(Sentences s) {
        this.s = s;
    }

    void all() {
        twentyCells();
        sixtyBytes();
        textOfThree();
        areas();
        delays();
        digits();
        trees();
        blanks();
        blanksBetweenNumbers();
        twelveSymbols();
        firstSymbol();
        firstFault();
        wrongBytes();
        theEnd();
        fourthDigits();
        outOfBounds();
        thirteenthSymbol();
        typePromise();
        typeRefused();
        cellPromise();
        cellWithFault();
        cellFull();
        faultPromise();
        dropPromise();
        dropRefused();
        undoPromise();
        undoLeavesTheTape();
        undoCounts();
    }

    /** A text that is a cell of this area, delay and number of symbols. */
    private void isCell(String text, int area, int delay, int symbols) {
        CellCover x = new CellCover();
        s.due("cell() of '" + text + "'", Checks.cellOf(x, text), 0);
        s.due("fault() of '" + text + "'", x.fault(), 0);
        s.due("area of '" + text + "'", x.about(0, 0, 0), area);
        s.due("delay of '" + text + "'", x.about(0, 1, 0), delay);
        s.due("symbols of '" + text + "'", x.about(0, 2, 0), symbols);
    }

    private void isFault(String text, int fault, int place) {
        CellCover x = new CellCover();
        s.due("cell() of '" + text + "'", Checks.cellOf(x, text), -100 - place);
        s.due("fault() of '" + text + "'", x.fault(), fault);
        s.due("no cell of '" + text + "'", x.count(6), 0);
    }

    private static String many(String text, int times) {
        return text.repeat(times);
    }

    private void twentyCells() {
        s.says("Terms 3: THE LIBRARY has CELLS 0 .. 19, as they come, till they are dropped; told by texts.");
        CellCover x = new CellCover();
        for (int i = 0; i < 20; i++) {
            s.due("cell", Checks.cellOf(x, (i + 1) + " 1Ia"), i);
        }
        s.due("21st", Checks.cellOf(x, "1 1Ia"), FULL);
        s.due("count(6)", x.count(6), 20);
        s.due("cell 0", x.about(0, 0, 0), 1);
        s.due("cell 19", x.about(19, 0, 0), 20);
        s.due("cell 20", x.about(20, 0, 0), BAD);
        s.due("drop(0)", x.drop(0), 1);
        s.due("it is there no more", x.about(0, 0, 0), BAD);
        s.due("cell 1 keeps its number", x.about(1, 0, 0), 2);
        s.due("count(6)", x.count(6), 19);
        s.due("20 have come all the same", x.cell(), FULL);
    }

    private void sixtyBytes() {
        s.says("Terms 3: THE TAPE has at most 60 bytes.");
        CellCover x = new CellCover();
        for (int i = 1; i <= 59; i++) {
            s.due("byte", x.type(32, 1), i);
        }
        s.due("two more", x.type(0x3131, 2), FULL);
        s.due("59 still", x.count(7), 59);
        s.due("60th", x.type(49, 1), 60);
        s.due("61st", x.type(49, 1), FULL);
        s.due("60 still", x.count(7), 60);
        s.due("all are looked at", x.cell(), -160);
        isCell(many(" ", 55) + "1 1Ia", 1, 1, 2);
        isCell("1 1Ia" + many(" ", 55), 1, 1, 2);
        isFault("1 1Ia" + many(" ", 54) + "a", 1, 59);
    }

    private void textOfThree() {
        s.says("Terms 3: text: AREA DELAY TREE.");
        isCell("7 8Ia", 7, 8, 2);
        isFault("7 Ia", 1, 2);
        isFault("Ia", 1, 0);
        isFault("7 8", 1, 3);
        isFault("7 8 9Ia", 1, 4);
        isFault("7 8IaIa", 1, 5);
        isFault("7 8Ia 9", 1, 6);
        isFault("Ia 7 8", 1, 0);
    }

    private void areas() {
        s.says("Terms 3: AREA: a number 1 .. 999;");
        isFault("0 1Ia", 2, 0);
        isCell("1 1Ia", 1, 1, 2);
        isCell("999 1Ia", 999, 1, 2);
        isFault("1000 1Ia", 1, 3);
        isFault("00 1Ia", 2, 0);
        isFault("000 1Ia", 2, 0);
        isCell("001 1Ia", 1, 1, 2);
        isFault("-1 1Ia", 1, 0);
        isFault("+1 1Ia", 1, 0);
    }

    private void delays() {
        s.says("Terms 3: DELAY: 0 .. 99;");
        isCell("1 0Ia", 1, 0, 2);
        isCell("1 00Ia", 1, 0, 2);
        isCell("1 000Ia", 1, 0, 2);
        isCell("1 99Ia", 1, 99, 2);
        isCell("1 099Ia", 1, 99, 2);
        isFault("1 100Ia", 2, 2);
        isFault("1 999Ia", 2, 2);
        isFault("1 -1Ia", 1, 2);
    }

    private void digits() {
        s.says("Terms 3: numbers are up to 3 digits, as many as stand there, and worth what they say.");
        isCell("5 4Ia", 5, 4, 2);
        isCell("54 32Ia", 54, 32, 2);
        isCell("987 065Ia", 987, 65, 2);
        isCell("010 010Ia", 10, 10, 2);
        isFault("9870 1Ia", 1, 3);
        isFault("1 0650Ia", 1, 5);
        isFault("1/ 1Ia", 1, 1);
        isFault("1: 1Ia", 1, 1);
        isFault("/ 1Ia", 1, 0);
        isFault(": 1Ia", 1, 0);
    }

    private void trees() {
        s.says("Terms 3: TREE: N TREE TREE | I TREE | a letter a .. f, a PIN, which may stand several times.");
        isCell("1 1Ia", 1, 1, 2);
        isCell("1 1If", 1, 1, 2);
        isFault("1 1I`", 1, 4);
        isFault("1 1Ig", 1, 4);
        isCell("1 1Nff", 1, 1, 3);
        isCell("1 1NNaaNaa", 1, 1, 7);
        isFault("1 1N", 1, 4);
        isFault("1 1Na", 1, 5);
        isFault("1 1Nabc", 1, 6);
        isFault("1 1Iab", 1, 5);
        isFault("1 1IA", 1, 4);
        isFault("1 1IF", 1, 4);
        isFault("1 1na", 1, 3);
        isFault("1 1ia", 1, 3);
        isFault("1 1Ma", 1, 3);
        isFault("1 1Oa", 1, 3);
        isFault("1 1Ha", 1, 3);
        isFault("1 1Ja", 1, 3);
    }

    private void blanks() {
        s.says("Terms 3: Blanks (32) may stand ahead of each of these, and behind the last one;");
        isCell("1 1Nab", 1, 1, 3);
        isCell("  1  1  N  a  b  ", 1, 1, 3);
        isCell("1 1N I a b", 1, 1, 4);
        isFault("1 1\0Ia", 1, 3);
        isFault("1\t1Ia", 1, 1);
        isFault("1 1I\na", 1, 4);
        isFault("1 1I\u001fa", 1, 4);
        isFault("1 1I!a", 1, 4);
        isFault("1 1I\u00a0a", 1, 4);
        isFault("1 1Ia\0", 1, 5);
        isFault("1 1Ia \0", 1, 6);
        isFault("\0001 1Ia", 1, 0);
        // Inside a number there is none: it ends there.
        isFault("1 2 3 Ia", 1, 4);
    }

    private void blanksBetweenNumbers() {
        s.says("Terms 3: numbers must have some between.");
        isCell("1 2Ia", 1, 2, 2);
        isCell("1   2Ia", 1, 2, 2);
        isFault("12Ia", 1, 2);
        isFault("123Ia", 1, 3);
        isFault("1234Ia", 1, 3);
        isFault("1", 1, 1);
        isFault("1,2Ia", 1, 1);
    }

    private void twelveSymbols() {
        s.says("Terms 3: At most 12 N, I and PINS;");
        isCell("1 1" + many("I", 11) + "a", 1, 1, 12);
        isFault("1 1" + many("I", 12) + "a", 3, 15);
        isCell("1 1INNNNNabcdef", 1, 1, 12);
        isFault("1 1NNNNNNabcdefa", 3, 15);
        isCell("1 1 N N N N N a b c d e f", 1, 1, 11);
        isCell("1 1NaNbNcNdNeIf", 1, 1, 12);
        isFault("1 1NaNbNcNdNeIIf", 3, 15);
    }

    private void firstSymbol() {
        s.says("Terms 3: the first is N or I.");
        isCell("1 1Ia", 1, 1, 2);
        isCell("1 1Naa", 1, 1, 3);
        isFault("1 1a", 1, 3);
        isFault("1 1f", 1, 3);
        isFault("1 1 a ", 1, 4);
        isFault("1 1aIa", 1, 3);
    }

    private void firstFault() {
        s.says("Terms 3: FAULTS, the first from the left:");
        isFault("0 100" + many("I", 13) + "x", 2, 0);
        isFault("1 100" + many("I", 13) + "x", 2, 2);
        isFault("1 10" + many("I", 13) + "x", 3, 16);
        isFault("1 10" + many("I", 12) + "x", 1, 16);
        isFault("x 100", 1, 0);
        isFault("1x 100", 1, 1);
        isFault("0x", 2, 0);
    }

    private void wrongBytes() {
        s.says("Terms 3: 1 a byte that can not stand there,");
        isFault("x", 1, 0);
        isFault("1x", 1, 1);
        isFault("1 x", 1, 2);
        isFault("1 1x", 1, 3);
        isFault("1 1Ix", 1, 4);
        isFault("1 1Iax", 1, 5);
        isFault("1 1Ia x", 1, 6);
        isFault("1 1I1", 1, 4);
        isFault("1 1\u00ce\u00e1", 1, 3);
        isFault("\u00ff", 1, 0);
        isFault("1 1I\u0080", 1, 4);
        // A tree that has its end takes no more: not even what would be its 13th.
        isFault("1 1" + many("I", 11) + "aI", 1, 15);
    }

    private void theEnd() {
        s.says("Terms 3: or the end (its place: THE TAPE's length);");
        isFault("", 1, 0);
        isFault(" ", 1, 1);
        isFault("1", 1, 1);
        isFault("1 ", 1, 2);
        isFault("1 1", 1, 3);
        isFault("1 1 ", 1, 4);
        isFault("1 1N", 1, 4);
        isFault("1 1Na", 1, 5);
        isFault("1 1Na  ", 1, 7);
        isFault("1 1" + many("N", 12), 1, 15);
        isFault("1 1" + many("I", 12) + "  ", 1, 17);
        isFault(many(" ", 59), 1, 59);
        isFault(many(" ", 60), 1, 60);
        isFault(many(" ", 55) + "1 1Na", 1, 60);
    }

    private void fourthDigits() {
        s.says("Terms 3: at the 4th digit of a number, too;");
        isCell("100 1Ia", 100, 1, 2);
        isFault("1000 1Ia", 1, 3);
        isFault("0010 1Ia", 1, 3);
        isFault("  99999", 1, 5);
        isCell("1 009Ia", 1, 9, 2);
        isFault("1 0009Ia", 1, 5);
        isFault("1  0000Ia", 1, 6);
        isFault("1 0990", 1, 5);
    }

    private void outOfBounds() {
        s.says("Terms 3: 2 a number out of its bounds (at its first digit; behind it no 1 of the same number);");
        isFault("0", 2, 0);
        isFault("   000 1Ia", 2, 3);
        isFault("0000 1Ia", 2, 0);
        isFault("0009 1Ia", 2, 0);
        isFault("0x", 2, 0);
        isFault("1 100", 2, 2);
        isFault("1    100Ia", 2, 5);
        isFault("1 1000Ia", 2, 2);
        isFault("1 100x", 2, 2);
        isCell("1 099Ia", 1, 99, 2);
        isFault("1 0999Ia", 1, 5);
    }

    private void thirteenthSymbol() {
        s.says("Terms 3: 3 the 13th N, I or PIN.");
        isFault("1 1" + many("N", 13), 3, 15);
        isFault("1 1" + many("I", 13), 3, 15);
        isFault("1 1" + many("I", 12) + "a", 3, 15);
        isFault("1 1" + many("I", 12) + "  f", 3, 17);
        isFault("1 1" + many("I", 12) + "g", 1, 15);
        isFault("1 1" + many("I", 12) + "1", 1, 15);
        isFault("1 1" + many(" I", 13), 3, 28);
        isFault("1 1NNNNNNabcdef" + "f", 3, 15);
    }

    private void typePromise() {
        s.says("Promise 5: n bytes come to THE TAPE, the lowest of w, the highest of these first: how many it has.");
        CellCover x = new CellCover();
        s.due("one byte, the lowest", x.type(Checks.packed("XXXXXXX4"), 1), 1);
        s.due("two bytes", x.type(Checks.packed("XXXXXX2 "), 2), 3);
        s.due("eight bytes", x.type(Checks.packed("17Nab   "), 8), 11);
        s.due("cell()", x.cell(), 0);
        s.due("42", x.about(0, 0, 0), 42);
        s.due("17", x.about(0, 1, 0), 17);
        s.due("a byte of 255", x.type(-1, 1), 1);
        s.due("eight bytes of 255", x.type(-1, 8), 9);
        s.due("count(7)", x.count(7), 9);
        s.due("255 can not stand there", x.cell(), -100);
        s.due("the highest byte, its highest bit 1", x.type(0xb120314961202020L, 8), 8);
        s.due("it is no digit", x.cell(), -100);
        s.due("the highest byte, its highest bit 0", x.type(0x3120314961202020L, 8), 8);
        s.due("it is a digit", x.cell(), 1);
        s.due("bytes of 0", x.type(0, 8), 8);
        s.due("they can not stand there", x.cell(), -100);
    }

    private void typeRefused() {
        s.says("Promise 5: BAD: n is not 1 .. 8;");
        CellCover x = new CellCover();
        s.due("n 0", x.type(49, 0), BAD);
        s.due("n -1", x.type(49, -1), BAD);
        s.due("n 9", x.type(49, 9), BAD);
        for (int far : FAR) {
            s.due("n " + far, x.type(49, far), BAD);
        }
        s.due("nothing changes", x.count(7), 0);
        for (int n = 1; n <= 8; n++) {
            s.due("n " + n, x.type(BLANKS, n), n * (n + 1) / 2);
        }
        s.says("Promise 5: FULL: above 60.");
        for (int n = 1; n <= 8; n++) {
            CellCover y = new CellCover();
            int length = 0;
            while (length < 60 - n) {
                int more = Math.min(8, 60 - n - length);
                length += more;
                s.due("to the brim", y.type(BLANKS, more), length);
            }
            if (n < 8) {
                s.due("one above 60", y.type(BLANKS, n + 1), FULL);
            }
            s.due("nothing changes", y.count(7), 60 - n);
            s.due("just 60", y.type(BLANKS, n), 60);
            s.due("not a byte more", y.type(BLANKS, 1), FULL);
            s.due("not eight more", y.type(BLANKS, 8), FULL);
            s.due("BAD is ahead of FULL: 0", y.type(BLANKS, 0), BAD);
            s.due("BAD is ahead of FULL: 9", y.type(BLANKS, 9), BAD);
            s.due("60 still", y.count(7), 60);
        }
    }

    private void cellPromise() {
        s.says("Promise 6: (C) THE TAPE, which is empty then, is a CELL: its number;");
        CellCover x = new CellCover();
        x.cover(0);
        Checks.typeText(x, "1 1Ia");
        s.due("type() is no (C)", x.area(), 0);
        s.due("the tape", x.count(7), 5);
        s.due("cell()", x.cell(), 0);
        s.due("told no more", x.area(), NO);
        s.due("the tape is empty", x.count(7), 0);
        s.due("so there is none now", x.cell(), -100);
        s.due("the next one", Checks.cellOf(x, "2 2Nab"), 1);
        s.due("nothing of the one ahead is left", x.about(1, 2, 0), 3);
    }

    private void cellWithFault() {
        s.says("Promise 6: -100 less the place of its FAULT (then it is no (C)).");
        CellCover x = Checks.withInputs(1);
        x.cover(0);
        s.due("at place 0", Checks.cellOf(x, "x"), -100);
        s.due("the tape is empty", x.count(7), 0);
        s.due("at place 60", Checks.cellOf(x, many(" ", 60)), -160);
        s.due("the tape is empty", x.count(7), 0);
        s.due("at place 7", Checks.cellOf(x, "1 1Nab x"), -107);
        s.due("at place 11", Checks.cellOf(x, "1 1NNdeNNcf"), -111);
        s.due("the cover is told", x.area(), 0);
        s.due("no cell came", x.count(6), 0);
        s.due("nothing to undo of it: only the input", x.undo(), 0);
        s.due("the next one is the first", Checks.cellOf(x, "1 1Ia"), 0);
        s.due("nothing of the faulty one is left", x.about(0, 2, 0) * 10 + x.about(0, 3, 0), 21);
        x.input();
        x.gate(NOT, 0, 0, 0);
        x.output(1);
        s.due("nor in its matches", x.matches(0, 1), 1);
    }

    private void cellFull() {
        s.says("Promise 6: FULL: 20, ahead of FAULTS, THE TAPE staying.");
        CellCover x = new CellCover();
        for (int i = 0; i < 19; i++) {
            Checks.cellOf(x, "1 1Ia");
        }
        s.due("a fault with 19", Checks.cellOf(x, "0"), -100);
        s.due("the 20th", Checks.cellOf(x, "1 1Ia"), 19);
        x.cover(0);
        s.due("the 21st, of an empty tape", x.cell(), FULL);
        Checks.typeText(x, "0 ");
        s.due("the 21st, with a fault", x.cell(), FULL);
        s.due("the tape stays", x.count(7), 2);
        s.due("the cover stays", x.area(), 0);
        s.due("fault() stays", x.fault(), 0);
        s.due("dropping does not help", x.drop(3), 1);
        s.due("the 21st", x.cell(), FULL);
        s.due("undo() of the drop", x.undo(), 20);
        s.due("undo() of the 20th", x.undo(), 19);
        s.due("the tape stays", x.count(7), 2);
        s.due("now it is a fault", x.cell(), -100);
        s.due("of the text that stayed", x.fault(), 2);
        s.due("the 20th again", Checks.cellOf(x, "1 1Ia"), 19);
    }

    private void faultPromise() {
        s.says("Promise 7: The FAULT of the latest cell() that was not FULL; 0.");
        CellCover x = new CellCover();
        s.due("there was none", x.fault(), 0);
        Checks.cellOf(x, "x");
        s.due("1", x.fault(), 1);
        Checks.cellOf(x, "0");
        s.due("2", x.fault(), 2);
        Checks.cellOf(x, "1 1" + many("I", 13));
        s.due("3", x.fault(), 3);
        x.input();
        x.undo();
        x.cover(0);
        x.type(48, 1);
        s.due("other calls leave it", x.fault(), 3);
        x.cell();
        s.due("2 again", x.fault(), 2);
        for (int i = 0; i < 20; i++) {
            Checks.cellOf(x, "1 1Ia");
            s.due("0 of one that is fine", x.fault(), 0);
        }
        x.undo();
        Checks.cellOf(x, "x");
        Checks.cellOf(x, "1 1Ia");
        x.undo();
        Checks.cellOf(x, "0");
        s.due("2", x.fault(), 2);
        Checks.cellOf(x, "1 1Ia");
        s.due("0", x.fault(), 0);
        s.due("FULL", Checks.cellOf(x, "x"), FULL);
        s.due("is not looked at", x.fault(), 0);
    }

    private void dropPromise() {
        s.says("Promise 8: (C) A CELL is dropped: 1.");
        CellCover x = new CellCover();
        for (int i = 0; i < 20; i++) {
            Checks.cellOf(x, "1 1Ia");
        }
        x.cover(0);
        s.due("told", x.area(), 0);
        s.due("the first", x.drop(0), 1);
        s.due("told no more", x.area(), NO);
        s.due("the last", x.drop(19), 1);
        s.due("count(6)", x.count(6), 18);
        for (int i = 1; i < 19; i++) {
            s.due("drop", x.drop(i), 1);
        }
        s.due("none is there", x.count(6), 0);
    }

    private void dropRefused() {
        s.says("Promise 8: BAD: also it was.");
        CellCover x = new CellCover();
        s.due("there are no cells", x.drop(0), BAD);
        Checks.cellOf(x, "1 1Ia");
        Checks.cellOf(x, "1 1Nab");
        x.cover(0);
        s.due("-1", x.drop(-1), BAD);
        s.due("2", x.drop(2), BAD);
        s.due("19", x.drop(19), BAD);
        s.due("20", x.drop(20), BAD);
        for (int far : FAR) {
            s.due("" + far, x.drop(far), BAD);
        }
        s.due("nothing changes", x.count(6), 2);
        s.due("the cover stays", x.area(), 0);
        s.due("1", x.drop(1), 1);
        x.cover(0);
        s.due("it was", x.drop(1), BAD);
        s.due("the cover stays", x.area(), 0);
        s.due("undo(), the drop alone", x.undo(), 2);
        s.due("it is there again", x.drop(1), 1);
        x.undo();
        s.due("undo() of the cell", x.undo(), 1);
        s.due("it is none now", x.drop(1), BAD);
    }

    private void undoPromise() {
        s.says("Promise 9: (C) The latest of input(), gate(), output(), cell(), drop() that was not refused is taken back, as if it had not been");
        CellCover x = new CellCover();
        long[] digests = new long[6];
        for (int i = 0; i <= 5; i++) {
            digests[i] = x.digest();
            change(x, i);
        }
        s.due("all five", x.count(0) * 100 + x.count(2) * 10 + x.count(6), 210);
        x.gate(7, 0, 0, 0);
        x.gate(NAND, 0, 2, 0);
        x.output(2);
        x.drop(0);
        x.drop(1);
        Checks.cellOf(x, "0");
        x.type(49, 9);
        x.cover(0);
        s.due("undo() of the drop, not of what was refused", x.undo(), 4);
        s.due("as it was", x.digest(), digests[4]);
        s.due("the cell is there", x.about(0, 0, 0), 7);
        s.due("undo() of the cell", x.undo(), 3);
        s.due("as it was", x.digest(), digests[3]);
        s.due("undo() of the output", x.undo(), 2);
        s.due("as it was", x.digest(), digests[2]);
        s.due("none lives", x.count(4), 0);
        s.due("undo() of the gate", x.undo(), 1);
        s.due("as it was", x.digest(), digests[1]);
        x.cover(0);
        s.due("told", x.area(), 0);
        s.due("undo() of the input", x.undo(), 0);
        s.due("told no more", x.area(), NO);
        s.due("as it was", x.digest(), digests[0]);
        for (int i = 0; i <= 5; i++) {
            s.due("all once more", x.digest(), digests[i]);
            change(x, i);
        }
    }

    private static void change(CellCover x, int i) {
        switch (i) {
            case 0 -> x.input();
            case 1 -> x.gate(AND, 0, 0, 0);
            case 2 -> x.output(1);
            case 3 -> Checks.cellOf(x, "7 8Nab");
            case 4 -> x.drop(0);
            default -> { }
        }
    }

    private void undoLeavesTheTape() {
        s.says("Promise 9: (but THE TAPE and fault() stay as they are)");
        CellCover x = new CellCover();
        Checks.cellOf(x, "1 1Ia");
        Checks.cellOf(x, "0");
        Checks.typeText(x, "3 4");
        s.due("undo() of the cell", x.undo(), 0);
        s.due("fault() stays", x.fault(), 2);
        s.due("the tape stays, and the cell's text does not come back", x.count(7), 3);
        Checks.typeText(x, "Nab");
        s.due("it is a cell", x.cell(), 0);
        s.due("of what stayed", x.about(0, 0, 0) * 10 + x.about(0, 1, 0), 34);
        s.due("fault()", x.fault(), 0);
        Checks.cellOf(x, "x");
        Checks.cellOf(x, "5 6Ia");
        s.due("undo()", x.undo(), 1);
        s.due("fault() does not come back", x.fault(), 0);
        s.due("the tape stays empty", x.count(7), 0);
    }

    private void undoCounts() {
        s.says("Promise 9: how many are left. NO: there is none.");
        CellCover x = new CellCover();
        s.due("there is none", x.undo(), NO);
        for (int i = 0; i < 40; i++) {
            s.due("node", i == 0 ? x.input() : x.gate(NOT, i - 1, 0, 0), i);
        }
        for (int i = 0; i < 8; i++) {
            s.due("output", x.output(i), i);
        }
        for (int i = 0; i < 20; i++) {
            s.due("cell", Checks.cellOf(x, "1 1Ia"), i);
        }
        for (int i = 0; i < 20; i++) {
            s.due("drop", x.drop(i), 1);
        }
        for (int left = 87; left >= 0; left--) {
            s.due("undo()", x.undo(), left);
        }
        x.cover(0);
        s.due("there is none", x.undo(), NO);
        s.due("nothing changes: the cover", x.area(), 0);
        s.due("nothing changes: the digest", x.digest(), 13);
        s.due("there is none, still", x.undo(), NO);
        x.input();
        s.due("the one there is", x.undo(), 0);
    }
}
