/**
 * A mapper of nets of gates to the cells of a library.
 *
 * The gates become nands and inverters, each made once; these are cut at roots,
 * where more than one thing uses them; the trees of the library's cells then
 * cover what is left, as cheaply or as fast as can be.
 *
 * All rows are made with the object and used again: no call makes an object.
 */
public final class CellCover {
    public static final int BAD = -1, NO = -2, FULL = -3, NONE = -4;

    private static final int MOST_NODES = 40;
    private static final int MOST_OUTPUTS = 8;
    // No kind of gate makes more than four vertices.
    private static final int MOST_VERTICES = 4 * MOST_NODES;
    private static final int MOST_CELLS = 20;
    private static final int MOST_BYTES = 60;
    private static final int MOST_TYPED = 8;
    private static final int MOST_SYMBOLS = 12;
    // Each N of a tree lies in two ways: this is far above what a tree can have.
    private static final int MOST_MATCHES = 1 << MOST_SYMBOLS;
    // A cell is kept once and dropped once for each of its numbers.
    private static final int MOST_STEPS = MOST_NODES + MOST_OUTPUTS + 2 * MOST_CELLS;
    private static final int PINS = 6;

    private static final int NOT = 0, AND = 1, OR = 2, XOR = 3, NAND = 4, NOR = 5, PICK = 6;
    private static final int NO_GATE = 7;

    private static final int INPUT = 0, INVERSE = 1, NAND_OF_TWO = 2;

    // The symbols of a tree: the pins are 0 .. 5.
    private static final int SYMBOL_I = 6, SYMBOL_N = 7;

    private static final int NO_FAULT = 0, WRONG_BYTE = 1, OUT_OF_BOUNDS = 2, TOO_LONG = 3;
    // What answers tell with a place or a root lies below this.
    private static final int WITH_PLACE = -100;

    private static final int CHEAP = 0, FAST = 1;

    private final Vertices vertices;
    private final Net net;
    private final Tape tape;
    private final Library library;
    private final Matcher matcher;
    private final Cover told;
    // worth() makes its cover here, so that the one that is told stays.
    private final Cover trial;
    private final History history;
    private boolean covered;

    public CellCover() {
        vertices = new Vertices();
        net = new Net();
        tape = new Tape();
        library = new Library();
        matcher = new Matcher(vertices);
        told = new Cover(vertices, library, matcher);
        trial = new Cover(vertices, library, matcher);
        history = new History();
        covered = false;
    }

    public int input() {
        if (net.nodes >= MOST_NODES) {
            return FULL;
        }
        int ahead = vertices.many;
        int v = vertices.add(INPUT, NONE, NONE);
        return noteNode(net.addInput(ahead, v));
    }

    public int gate(int kind, int a, int b, int c) {
        if (kind < NOT || kind > PICK || !net.hasNode(a)) {
            return BAD;
        }
        if ((kind != NOT && !net.hasNode(b)) || (kind == PICK && !net.hasNode(c))) {
            return BAD;
        }
        if (net.nodes >= MOST_NODES) {
            return FULL;
        }
        // Parts that are not looked at may be anything: node 0 stands in for them.
        int second = kind != NOT ? b : 0;
        int third = kind == PICK ? c : 0;
        int ahead = vertices.many;
        int v = vertices.addGate(kind, net.vertexAt[a], net.vertexAt[second], net.vertexAt[third]);
        return noteNode(net.addGate(kind, a, second, third, ahead, v));
    }

    public int output(int node) {
        if (!net.hasNode(node)) {
            return BAD;
        }
        if (net.outputs >= MOST_OUTPUTS) {
            return FULL;
        }
        int number = net.addOutput(node);
        vertices.mark(net);
        noteChange(History.OUTPUT);
        return number;
    }

    public int type(long w, int n) {
        if (n < 1 || n > MOST_TYPED) {
            return BAD;
        }
        if (tape.length + n > MOST_BYTES) {
            return FULL;
        }
        return tape.append(w, n);
    }

    public int cell() {
        if (library.many >= MOST_CELLS) {
            return FULL;
        }
        boolean fine = tape.readInto(library.cells[library.many]);
        tape.length = 0;
        if (!fine) {
            return WITH_PLACE - tape.place;
        }
        noteChange(History.CELL);
        return library.keepNext();
    }

    public int fault() {
        return tape.fault;
    }

    public int drop(int cell) {
        if (!library.has(cell)) {
            return BAD;
        }
        library.cells[cell].there = false;
        noteChange(History.DROPS + cell);
        return 1;
    }

    public int undo() {
        if (history.many <= 0) {
            return NO;
        }
        takeBack(history.takeLatest());
        covered = false;
        return history.many;
    }

    public int vertexOf(int node) {
        return net.hasNode(node) ? net.vertexAt[node] : BAD;
    }

    public int vertex(int v, int what) {
        if (!vertices.has(v)) {
            return BAD;
        }
        switch (what) {
            case 0:
                return vertices.form[v];
            case 1:
                return vertices.first[v];
            case 2:
                return vertices.second[v];
            case 3:
                return vertices.uses[v];
            case 4:
                return vertices.root[v] ? 1 : 0;
            case 5:
                return vertices.lives[v] ? 1 : 0;
            default:
                return BAD;
        }
    }

    public int matches(int cell, int v) {
        if (!library.has(cell) || !vertices.isAlive(v)) {
            return BAD;
        }
        matcher.begin(library.cells[cell], v);
        return matcher.countRest();
    }

    public int match(int cell, int v, int k, int pin) {
        if (!library.has(cell) || !vertices.isAlive(v) || pin < 0 || pin >= PINS) {
            return BAD;
        }
        matcher.begin(library.cells[cell], v);
        return matcher.skipTo(k) ? matcher.pinAt[pin] : NONE;
    }

    public int cover(int how) {
        if (how != CHEAP && how != FAST) {
            return BAD;
        }
        int bare = told.make(how, NONE);
        covered = bare == NONE;
        return covered ? 0 : WITH_PLACE - bare;
    }

    public int best(int v, int what) {
        if (!vertices.has(v) || what < 0 || what > PINS + 2) {
            return BAD;
        }
        if (!covered) {
            return NO;
        }
        if (!vertices.isAlive(v) || !told.hasOne(v)) {
            return NONE;
        }
        switch (what) {
            case 0:
                return told.areaOf[v];
            case 1:
                return told.arrivalOf[v];
            case 2:
                return told.cellOf[v];
            default:
                return told.pinOf(v, what - 3);
        }
    }

    public int instance(int i, int what) {
        if (what < 0 || what > PINS + 1) {
            return BAD;
        }
        if (!covered) {
            return NO;
        }
        if (i < 0 || i >= told.instances) {
            return NONE;
        }
        int v = told.instanceAt[i];
        switch (what) {
            case 0:
                return told.cellOf[v];
            case 1:
                return v;
            default:
                return told.pinOf(v, what - 2);
        }
    }

    public int area() {
        return covered ? told.wholeArea : NO;
    }

    public int arrival(int output) {
        if (output < 0 || output >= net.outputs) {
            return BAD;
        }
        return covered ? told.arrivalOf[net.outputVertex(output)] : NO;
    }

    public int worth(int cell) {
        if (!library.has(cell)) {
            return BAD;
        }
        if (!covered) {
            return NO;
        }
        if (trial.make(told.manner, cell) != NONE) {
            return NONE;
        }
        return trial.wholeArea - told.wholeArea;
    }

    public int run(long bits) {
        return net.outputsFor(bits);
    }

    public int mapped(long bits) {
        if (!covered) {
            return NO;
        }
        told.work(bits);
        int answer = 0;
        for (int o = 0; o < net.outputs; o++) {
            answer |= told.value[net.outputVertex(o)] << o;
        }
        return answer;
    }

    public int about(int cell, int what, int x) {
        if (!library.has(cell)) {
            return BAD;
        }
        Cell one = library.cells[cell];
        switch (what) {
            case 0:
                return one.area;
            case 1:
                return one.delay;
            case 2:
                return one.symbols;
            case 3:
                return one.pinBits;
            case 4:
                return x < 0 || x >= 1 << PINS ? BAD : one.valueFor(x);
            default:
                return BAD;
        }
    }

    public int count(int what) {
        switch (what) {
            case 0:
                return net.nodes;
            case 1:
                return net.inputs;
            case 2:
                return net.outputs;
            case 3:
                return vertices.many;
            case 4:
                return vertices.living;
            case 5:
                return vertices.roots;
            case 6:
                return library.countThere();
            case 7:
                return tape.length;
            case 8:
                return covered ? told.instances : NO;
            default:
                return BAD;
        }
    }

    public long digest() {
        long h = 13;
        for (int v = 0; v < vertices.many; v++) {
            for (int what = 0; what <= 5; what++) {
                h = 31 * h + vertex(v, what);
            }
        }
        for (int o = 0; o < net.outputs; o++) {
            h = 31 * h + net.outputVertex(o);
        }
        for (int c = 0; c < library.many; c++) {
            Cell one = library.cells[c];
            h = 31 * h + (one.there ? 1 : 0);
            h = 31 * h + one.area;
            h = 31 * h + one.delay;
        }
        return h;
    }

    private int noteNode(int number) {
        vertices.mark(net);
        noteChange(History.NODE);
        return number;
    }

    private void noteChange(int step) {
        history.add(step);
        covered = false;
    }

    private void takeBack(int step) {
        switch (step) {
            case History.NODE:
                vertices.many = net.removeNode();
                vertices.mark(net);
                break;
            case History.OUTPUT:
                net.outputs--;
                vertices.mark(net);
                break;
            case History.CELL:
                library.forgetLatest();
                break;
            default:
                library.bringBack(step - History.DROPS);
                break;
        }
    }

    /** What undo() can take back, the latest last. */
    private static final class History {
        static final int NODE = 0, OUTPUT = 1, CELL = 2;
        // A drop of cell c is told as DROPS + c.
        static final int DROPS = 3;

        private final int[] steps = new int[MOST_STEPS];
        int many = 0;

        void add(int step) {
            if (many < MOST_STEPS) {
                steps[many] = step;
                many++;
            }
        }

        int takeLatest() {
            many--;
            return steps[many];
        }
    }

    /** The net as it was told: nodes and outputs. */
    private static final class Net {
        private final int[] kind = new int[MOST_NODES];
        private final int[] partA = new int[MOST_NODES];
        private final int[] partB = new int[MOST_NODES];
        private final int[] partC = new int[MOST_NODES];
        private final int[] value = new int[MOST_NODES];
        private final int[] outputNode = new int[MOST_OUTPUTS];
        // How many vertices there were ahead of a node: undo() goes back to it.
        private final int[] verticesAhead = new int[MOST_NODES];
        final int[] vertexAt = new int[MOST_NODES];
        int nodes = 0;
        int inputs = 0;
        int outputs = 0;

        boolean hasNode(int node) {
            return node >= 0 && node < nodes;
        }

        int addInput(int ahead, int v) {
            inputs++;
            return addNode(NO_GATE, ahead, v);
        }

        int addGate(int gateKind, int a, int b, int c, int ahead, int v) {
            int number = addNode(gateKind, ahead, v);
            partA[number] = a;
            partB[number] = b;
            partC[number] = c;
            return number;
        }

        /** Room for it has been looked at. */
        private int addNode(int nodeKind, int ahead, int v) {
            int number = nodes;
            kind[number] = nodeKind;
            verticesAhead[number] = ahead;
            vertexAt[number] = v;
            nodes++;
            return number;
        }

        /** Answers how many vertices are left. */
        int removeNode() {
            nodes--;
            if (kind[nodes] == NO_GATE) {
                inputs--;
            }
            return verticesAhead[nodes];
        }

        int addOutput(int node) {
            int number = outputs;
            outputNode[number] = node;
            outputs++;
            return number;
        }

        int outputVertex(int output) {
            return vertexAt[outputNode[output]];
        }

        int outputsFor(long bits) {
            long rest = bits;
            for (int n = 0; n < nodes; n++) {
                if (kind[n] == NO_GATE) {
                    value[n] = (int) (rest & 1);
                    rest = rest >>> 1;
                } else {
                    value[n] = gateValue(kind[n], value[partA[n]], value[partB[n]], value[partC[n]]);
                }
            }
            int answer = 0;
            for (int o = 0; o < outputs; o++) {
                answer |= value[outputNode[o]] << o;
            }
            return answer;
        }

        private static int gateValue(int gateKind, int a, int b, int c) {
            switch (gateKind) {
                case NOT:
                    return 1 - a;
                case AND:
                    return a & b;
                case OR:
                    return a | b;
                case XOR:
                    return a ^ b;
                case NAND:
                    return 1 - (a & b);
                case NOR:
                    return 1 - (a | b);
                default:
                    return a == 1 ? b : c;
            }
        }
    }

    /** The nands and inverters that the gates become; parts have lower numbers. */
    private static final class Vertices {
        final int[] form = new int[MOST_VERTICES];
        final int[] first = new int[MOST_VERTICES];
        final int[] second = new int[MOST_VERTICES];
        final int[] uses = new int[MOST_VERTICES];
        final boolean[] lives = new boolean[MOST_VERTICES];
        final boolean[] root = new boolean[MOST_VERTICES];
        int many = 0;
        int living = 0;
        int roots = 0;

        boolean has(int v) {
            return v >= 0 && v < many;
        }

        boolean isAlive(int v) {
            return has(v) && lives[v];
        }

        int addGate(int kind, int a, int b, int c) {
            switch (kind) {
                case NOT:
                    return inverseOf(a);
                case AND:
                    return inverseOf(nandOf(a, b));
                case OR:
                    return nandOfInverses(a, b);
                case XOR:
                    return exclusiveOf(a, b);
                case NAND:
                    return nandOf(a, b);
                case NOR:
                    return inverseOf(nandOfInverses(a, b));
                default:
                    return pickOf(a, b, c);
            }
        }

        // The numbers depend on the order in which the parts are made:
        // each stands in a line of its own for that.
        private int nandOfInverses(int a, int b) {
            int left = inverseOf(a);
            int right = inverseOf(b);
            return nandOf(left, right);
        }

        private int exclusiveOf(int a, int b) {
            int both = nandOf(a, b);
            int left = nandOf(a, both);
            int right = nandOf(b, both);
            return nandOf(left, right);
        }

        private int pickOf(int a, int b, int c) {
            int left = nandOf(a, b);
            int not = inverseOf(a);
            int right = nandOf(not, c);
            return nandOf(left, right);
        }

        private int inverseOf(int v) {
            if (form[v] == INVERSE) {
                return first[v];
            }
            for (int u = v + 1; u < many; u++) {
                if (form[u] == INVERSE && first[u] == v) {
                    return u;
                }
            }
            return add(INVERSE, v, NONE);
        }

        private int nandOf(int a, int b) {
            for (int u = Math.max(a, b) + 1; u < many; u++) {
                if (form[u] == NAND_OF_TWO && isOf(u, a, b)) {
                    return u;
                }
            }
            return add(NAND_OF_TWO, a, b);
        }

        private boolean isOf(int u, int a, int b) {
            return (first[u] == a && second[u] == b) || (first[u] == b && second[u] == a);
        }

        int add(int newForm, int a, int b) {
            int v = many;
            // Never so, as nodes are counted: it only keeps the index in its bounds.
            if (v >= MOST_VERTICES) {
                return v - 1;
            }
            form[v] = newForm;
            first[v] = a;
            second[v] = b;
            many++;
            return v;
        }

        /** Tells anew what lives, how often it is used, and what is a root. */
        void mark(Net net) {
            for (int v = 0; v < many; v++) {
                uses[v] = 0;
                root[v] = false;
            }
            for (int o = 0; o < net.outputs; o++) {
                int v = net.outputVertex(o);
                uses[v]++;
                root[v] = true;
            }
            living = 0;
            roots = 0;
            // What uses a vertex has a higher number: from the top, all uses are known.
            for (int v = many - 1; v >= 0; v--) {
                markOne(v);
            }
        }

        private void markOne(int v) {
            lives[v] = uses[v] > 0;
            root[v] = lives[v] && form[v] != INPUT && (root[v] || uses[v] != 1);
            if (!lives[v]) {
                return;
            }
            living++;
            if (root[v]) {
                roots++;
            }
            if (form[v] != INPUT) {
                uses[first[v]]++;
            }
            if (form[v] == NAND_OF_TWO) {
                uses[second[v]]++;
            }
        }
    }

    /** A cell; its tree is held as it is told, each symbol ahead of its parts. */
    private static final class Cell {
        final int[] symbol = new int[MOST_SYMBOLS];
        int symbols = 0;
        int nands = 0;
        int pinBits = 0;
        int area = 0;
        int delay = 0;
        boolean there = false;

        void clearTree() {
            symbols = 0;
            nands = 0;
            pinBits = 0;
        }

        void addSymbol(int s) {
            if (symbols >= MOST_SYMBOLS) {
                return;
            }
            symbol[symbols] = s;
            symbols++;
            if (s == SYMBOL_N) {
                nands++;
            } else if (s < PINS) {
                pinBits |= 1 << s;
            }
        }

        /** What it gives if pin p has bit p of bits. */
        int valueFor(int bits) {
            // From the last symbol on, parts are ahead of what has them;
            // their values wait as the low bits of one number.
            int waiting = 0;
            for (int i = symbols - 1; i >= 0; i--) {
                int s = symbol[i];
                if (s == SYMBOL_N) {
                    int nand = (waiting & 3) == 3 ? 0 : 1;
                    waiting = (waiting >> 2) << 1 | nand;
                } else if (s == SYMBOL_I) {
                    waiting ^= 1;
                } else {
                    waiting = waiting << 1 | (bits >> s & 1);
                }
            }
            return waiting & 1;
        }
    }

    /** All cells that came; a dropped one keeps its number. */
    private static final class Library {
        final Cell[] cells = new Cell[MOST_CELLS];
        int many = 0;

        Library() {
            for (int c = 0; c < MOST_CELLS; c++) {
                cells[c] = new Cell();
            }
        }

        boolean has(int cell) {
            return cell >= 0 && cell < many && cells[cell].there;
        }

        /** The cell that has been read into the next place stays. */
        int keepNext() {
            int number = many;
            cells[number].there = true;
            many++;
            return number;
        }

        void forgetLatest() {
            if (many > 0) {
                many--;
                cells[many].there = false;
            }
        }

        void bringBack(int cell) {
            if (cell >= 0 && cell < many) {
                cells[cell].there = true;
            }
        }

        int countThere() {
            int there = 0;
            for (int c = 0; c < many; c++) {
                if (cells[c].there) {
                    there++;
                }
            }
            return there;
        }
    }

    /** The tape, and how a cell is read from it. */
    private static final class Tape {
        private static final int BLANK = 32;
        private static final int MOST_DIGITS = 3;
        private static final int MOST_AREA = 999;
        private static final int MOST_DELAY = 99;

        private final int[] bytes = new int[MOST_BYTES];
        int length = 0;
        // Where reading stands; behind a reading that failed, the place of its fault.
        int place = 0;
        int fault = NO_FAULT;

        /** Room for the bytes has been looked at. */
        int append(long w, int n) {
            for (int i = n - 1; i >= 0; i--) {
                bytes[length] = (int) (w >>> (8 * i) & 255);
                length++;
            }
            return length;
        }

        boolean readInto(Cell cell) {
            fault = NO_FAULT;
            place = 0;
            cell.area = readNumber(1, MOST_AREA);
            if (fault != NO_FAULT) {
                return false;
            }
            if (place >= length || bytes[place] != BLANK) {
                return failAt(place, WRONG_BYTE);
            }
            cell.delay = readNumber(0, MOST_DELAY);
            return fault == NO_FAULT && readTree(cell) && readEnd();
        }

        private int readNumber(int least, int most) {
            skipBlanks();
            int start = place;
            int number = 0;
            while (place - start < MOST_DIGITS && isAtDigit()) {
                number = 10 * number + bytes[place] - '0';
                place++;
            }
            if (place == start) {
                failAt(place, WRONG_BYTE);
            } else if (number < least || number > most) {
                // Told ahead of a 4th digit: its place is left of that one's.
                failAt(start, OUT_OF_BOUNDS);
            } else if (isAtDigit()) {
                failAt(place, WRONG_BYTE);
            }
            return number;
        }

        private boolean readTree(Cell cell) {
            cell.clearTree();
            int due = 1;
            for (int i = 0; i <= MOST_SYMBOLS && due > 0; i++) {
                skipBlanks();
                int s = place < length ? symbolOf(bytes[place]) : NONE;
                if (s == NONE || (i == 0 && s < PINS)) {
                    return failAt(place, WRONG_BYTE);
                }
                if (i >= MOST_SYMBOLS) {
                    return failAt(place, TOO_LONG);
                }
                cell.addSymbol(s);
                place++;
                if (s == SYMBOL_N) {
                    due++;
                } else if (s < PINS) {
                    due--;
                }
            }
            return true;
        }

        private boolean readEnd() {
            skipBlanks();
            return place >= length || failAt(place, WRONG_BYTE);
        }

        private void skipBlanks() {
            while (place < length && bytes[place] == BLANK) {
                place++;
            }
        }

        private boolean failAt(int where, int what) {
            place = where;
            fault = what;
            return false;
        }

        private boolean isAtDigit() {
            return place < length && bytes[place] >= '0' && bytes[place] <= '9';
        }

        private static int symbolOf(int b) {
            if (b == 'N') {
                return SYMBOL_N;
            }
            if (b == 'I') {
                return SYMBOL_I;
            }
            return b >= 'a' && b < 'a' + PINS ? b - 'a' : NONE;
        }
    }

    /**
     * Finds the matches of a cell at a vertex, one after the other.
     *
     * A match is told by its turns: a bit for each N of the tree, 1 if its parts
     * are exchanged, the first N's bit the highest. As a tree is told with each N
     * ahead of its left part and that ahead of its right part, turns by their
     * size are matches in the order that the document asks for.
     */
    private static final class Matcher {
        private static final int LAID = -1;

        private final Vertices vertices;
        private final int[] waiting = new int[MOST_SYMBOLS + 1];
        final int[] pinAt = new int[PINS];
        private Cell cell = null;
        private int top = 0;
        private int turns = 0;

        Matcher(Vertices vertices) {
            this.vertices = vertices;
        }

        void begin(Cell newCell, int v) {
            cell = newCell;
            top = v;
            turns = 0;
        }

        /** Lays the next match into pinAt; answers whether there is one. */
        boolean next() {
            if (cell == null) {
                return false;
            }
            int all = 1 << cell.nands;
            for (int t = turns; t < all; t++) {
                int read = lay(t);
                if (read == LAID) {
                    turns = t + 1;
                    return true;
                }
                // Turns that differ only in Ns behind the place of failure fail as well.
                t |= (1 << (cell.nands - read)) - 1;
            }
            turns = all;
            return false;
        }

        int countRest() {
            int found = 0;
            while (found < MOST_MATCHES && next()) {
                found++;
            }
            return found;
        }

        boolean skipTo(int k) {
            // No tree has more: so the loop is bounded for any k.
            boolean found = k >= 0 && k < MOST_MATCHES;
            for (int i = 0; i <= k && found; i++) {
                found = next();
            }
            return found;
        }

        /** LAID, or how many Ns were laid ahead of what could not be laid. */
        private int lay(int t) {
            for (int p = 0; p < PINS; p++) {
                pinAt[p] = NONE;
            }
            waiting[0] = top;
            int waits = 1;
            int nands = 0;
            for (int i = 0; i < cell.symbols; i++) {
                int s = cell.symbol[i];
                waits--;
                int v = waiting[waits];
                if (!fits(s, v, i == 0)) {
                    return nands;
                }
                if (s == SYMBOL_N) {
                    nands++;
                    boolean turned = (t >> (cell.nands - nands) & 1) == 1;
                    // The left part is laid next: it has to wait on top.
                    waiting[waits] = turned ? vertices.first[v] : vertices.second[v];
                    waiting[waits + 1] = turned ? vertices.second[v] : vertices.first[v];
                    waits += 2;
                } else if (s == SYMBOL_I) {
                    waiting[waits] = vertices.first[v];
                    waits++;
                } else {
                    pinAt[s] = v;
                }
            }
            return LAID;
        }

        private boolean fits(int s, int v, boolean isFirst) {
            if (s < PINS) {
                return pinAt[s] == NONE || pinAt[s] == v;
            }
            int form = s == SYMBOL_N ? NAND_OF_TWO : INVERSE;
            return vertices.form[v] == form && (isFirst || !vertices.root[v]);
        }
    }

    /** A cover of all that lives, and the mapped net that comes of it. */
    private static final class Cover {
        private final Vertices vertices;
        private final Library library;
        private final Matcher matcher;
        final int[] areaOf = new int[MOST_VERTICES];
        final int[] arrivalOf = new int[MOST_VERTICES];
        final int[] cellOf = new int[MOST_VERTICES];
        private final int[] pinsOf = new int[MOST_VERTICES * PINS];
        final int[] instanceAt = new int[MOST_VERTICES];
        private final boolean[] stands = new boolean[MOST_VERTICES];
        private final int[] waiting = new int[MOST_VERTICES];
        final int[] value = new int[MOST_VERTICES];
        int instances = 0;
        int wholeArea = 0;
        int manner = CHEAP;

        Cover(Vertices vertices, Library library, Matcher matcher) {
            this.vertices = vertices;
            this.library = library;
            this.matcher = matcher;
        }

        boolean hasOne(int v) {
            return vertices.form[v] == INPUT || cellOf[v] != NONE;
        }

        int pinOf(int v, int pin) {
            return cellOf[v] == NONE ? NONE : pinsOf[v * PINS + pin];
        }

        /** Answers the least root that has no match, or NONE: then it is a cover. */
        int make(int how, int leftOut) {
            manner = how;
            for (int v = 0; v < vertices.many; v++) {
                cellOf[v] = NONE;
                areaOf[v] = 0;
                arrivalOf[v] = 0;
                if (vertices.lives[v] && vertices.form[v] != INPUT) {
                    choose(v, leftOut);
                }
                if (vertices.root[v] && cellOf[v] == NONE) {
                    return v;
                }
            }
            listInstances();
            return NONE;
        }

        private void choose(int v, int leftOut) {
            for (int c = 0; c < library.many; c++) {
                if (c == leftOut || !library.has(c)) {
                    continue;
                }
                matcher.begin(library.cells[c], v);
                for (int k = 0; k < MOST_MATCHES && matcher.next(); k++) {
                    weigh(v, c);
                }
            }
        }

        /** Looks at the match that the matcher has laid, and keeps it if it is better. */
        private void weigh(int v, int c) {
            int area = library.cells[c].area;
            int latest = 0;
            for (int p = 0; p < PINS; p++) {
                int u = matcher.pinAt[p];
                if (u == NONE) {
                    continue;
                }
                if (!hasOne(u)) {
                    return;
                }
                // A root is paid for once, where it stands itself.
                if (!vertices.root[u]) {
                    area += areaOf[u];
                }
                latest = Math.max(latest, arrivalOf[u]);
            }
            int arrival = library.cells[c].delay + latest;
            if (cellOf[v] == NONE || isBetter(v, area, arrival)) {
                keep(v, c, area, arrival);
            }
        }

        private boolean isBetter(int v, int area, int arrival) {
            int byArea = Integer.compare(area, areaOf[v]);
            int byArrival = Integer.compare(arrival, arrivalOf[v]);
            int ahead = manner == CHEAP ? byArea : byArrival;
            int behind = manner == CHEAP ? byArrival : byArea;
            return ahead < 0 || (ahead == 0 && behind < 0);
        }

        private void keep(int v, int c, int area, int arrival) {
            cellOf[v] = c;
            areaOf[v] = area;
            arrivalOf[v] = arrival;
            for (int p = 0; p < PINS; p++) {
                pinsOf[v * PINS + p] = matcher.pinAt[p];
            }
        }

        private void listInstances() {
            instances = 0;
            wholeArea = 0;
            for (int v = 0; v < vertices.many; v++) {
                stands[v] = false;
            }
            for (int v = 0; v < vertices.many; v++) {
                if (vertices.root[v]) {
                    listBeneath(v);
                }
            }
        }

        // A chain of instances may be long: a row of what waits does not run
        // as deep as calls would.
        private void listBeneath(int top) {
            waiting[0] = top;
            int waits = 1;
            for (int step = 0; step < MOST_VERTICES && waits > 0; step++) {
                waits--;
                int v = waiting[waits];
                addInstance(v);
                for (int p = PINS - 1; p >= 0; p--) {
                    int u = pinOf(v, p);
                    if (u != NONE && isInside(u) && waits < MOST_VERTICES) {
                        waiting[waits] = u;
                        waits++;
                    }
                }
            }
        }

        private boolean isInside(int u) {
            return vertices.form[u] != INPUT && !vertices.root[u] && !stands[u];
        }

        private void addInstance(int v) {
            if (stands[v] || instances >= MOST_VERTICES || !library.has(cellOf[v])) {
                return;
            }
            stands[v] = true;
            instanceAt[instances] = v;
            instances++;
            wholeArea += library.cells[cellOf[v]].area;
        }

        /** The values of inputs and instances; parts have lower numbers. */
        void work(long bits) {
            long rest = bits;
            for (int v = 0; v < vertices.many; v++) {
                if (vertices.form[v] == INPUT) {
                    value[v] = (int) (rest & 1);
                    rest = rest >>> 1;
                } else if (stands[v] && library.has(cellOf[v])) {
                    value[v] = library.cells[cellOf[v]].valueFor(pinValues(v));
                }
            }
        }

        private int pinValues(int v) {
            int bits = 0;
            for (int p = 0; p < PINS; p++) {
                int u = pinOf(v, p);
                if (u != NONE) {
                    bits |= value[u] << p;
                }
            }
            return bits;
        }
    }
}
