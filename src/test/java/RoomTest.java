import java.lang.management.ManagementFactory;
import java.util.Random;

/** Calls of all kinds with any numbers, far beyond the 512th: none throws, none makes an object. */
public final class RoomTest {
    private static final int CALLS = 200_000;
    private static final int[] WILD = {
        Integer.MIN_VALUE, Integer.MIN_VALUE + 1, -101, -100, -4, -1, 0, 1, 5, 6, 7, 8, 9, 19, 20, 39, 40, 59, 60,
        63, 64, 159, 160, 161, 1 << 16, Integer.MAX_VALUE,
    };
    private static final String[] TEXTS = {"1 1Ia", "2 1Nab", "3 2INab", "3 2NIaIb", "0 2Ia", "1 1NNab", "9 9NNabNcd"};

    private final Random random = new Random(7);
    private final int[] numbers = new int[CALLS * 5];
    private final long[] texts = new long[TEXTS.length];
    private final int[] lengths = new int[TEXTS.length];
    private long sum = 0;

    private RoomTest() {
        for (int i = 0; i < numbers.length; i++) {
            numbers[i] = random.nextInt(4) == 0 ? WILD[random.nextInt(WILD.length)] : random.nextInt(45);
        }
        for (int i = 0; i < TEXTS.length; i++) {
            String text = TEXTS[i].substring(0, Math.min(8, TEXTS[i].length()));
            texts[i] = Checks.packed(text);
            lengths[i] = text.length();
        }
    }

    private void call(CellCover x, int at) {
        int a = numbers[at + 1];
        int b = numbers[at + 2];
        int c = numbers[at + 3];
        int d = numbers[at + 4];
        long bits = (long) a << 32 ^ b;
        switch (Math.floorMod(numbers[at] * 31 + at, 29)) {
            case 0 -> sum += x.input();
            case 1, 2, 3 -> sum += x.gate(Math.floorMod(a, 8), b, c, d);
            case 4 -> sum += x.output(a);
            case 5 -> sum += x.type(bits, c);
            case 6, 7 -> {
                int text = Math.floorMod(a, TEXTS.length);
                sum += x.type(texts[text], lengths[text]);
                sum += x.cell();
            }
            case 8 -> sum += x.drop(a);
            case 9 -> sum += x.undo();
            case 10 -> sum += x.vertexOf(a);
            case 11 -> sum += x.vertex(a, Math.floorMod(b, 7));
            case 12 -> sum += x.matches(Math.floorMod(a, 21), b);
            case 13, 14 -> sum += x.match(Math.floorMod(a, 21), b, c, Math.floorMod(d, 7));
            case 15, 16 -> sum += x.cover(a & 1);
            case 17 -> sum += x.best(a, Math.floorMod(b, 10));
            case 18 -> sum += x.instance(a, Math.floorMod(b, 9));
            case 19 -> sum += x.area() + x.fault();
            case 20 -> sum += x.arrival(a);
            case 21 -> sum += x.worth(Math.floorMod(a, 21));
            case 22 -> sum += x.run(bits);
            case 23 -> sum += x.mapped(bits);
            case 24 -> sum += x.about(Math.floorMod(a, 21), Math.floorMod(b, 6), c);
            case 25 -> sum += x.count(a);
            case 26 -> sum += x.cover(a) + x.best(b, c) + x.instance(a, d) + x.match(a, b, c, d) + x.about(a, b, c);
            case 27 -> sum += x.gate(a, b, c, d) + x.vertex(a, b) + x.worth(a) + x.matches(a, b);
            default -> sum += x.digest();
        }
    }

    private void run(CellCover x) {
        for (int i = 0; i < CALLS; i++) {
            call(x, 5 * i);
        }
    }

    public static void main(String[] args) {
        RoomTest test = new RoomTest();
        com.sun.management.ThreadMXBean bean = (com.sun.management.ThreadMXBean) ManagementFactory.getThreadMXBean();
        Checks checks = new Checks();
        test.run(new CellCover());
        CellCover x = new CellCover();
        long before = bean.getCurrentThreadAllocatedBytes();
        test.run(x);
        long after = bean.getCurrentThreadAllocatedBytes();
        // Some hundred bytes are the measuring's own.
        checks.holds("calls make no objects: " + (after - before) + " bytes", after - before < CALLS / 10);
        long start = bean.getCurrentThreadAllocatedBytes();
        CellCover one = new CellCover();
        long size = bean.getCurrentThreadAllocatedBytes() - start;
        checks.holds("an object is small: " + size + " bytes", size < 60_000 && one.count(0) == 0);
        System.out.println("a new object has " + size + " bytes; sum " + test.sum);
        checks.end();
    }
}
