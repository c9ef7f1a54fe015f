/** Counts and prints answers that are not as due. */
final class Checks {
    private int wrong = 0;
    private int made = 0;

    void due(String call, long got, long want) {
        made++;
        if (got != want) {
            wrong++;
            System.out.println(call + " answered " + got + ", due is " + want);
        }
    }

    void holds(String what, boolean so) {
        due(what, so ? 1 : 0, 1);
    }

    /** Ends the program: with 1 if an answer was wrong. */
    void end() {
        System.out.println(made + " answers looked at, " + wrong + " wrong");
        System.exit(wrong == 0 && made > 0 ? 0 : 1);
    }

    /** Types a text in pieces of up to 8 bytes; answers what the last type() did. */
    static int typeText(CellCover x, String text) {
        int answer = 0;
        for (int from = 0; from < text.length(); from += 8) {
            int to = Math.min(text.length(), from + 8);
            answer = x.type(packed(text.substring(from, to)), to - from);
        }
        return answer;
    }

    static long packed(String text) {
        long w = 0;
        for (int i = 0; i < text.length(); i++) {
            w = w << 8 | (text.charAt(i) & 255);
        }
        return w;
    }

    static int cellOf(CellCover x, String text) {
        typeText(x, text);
        return x.cell();
    }

    static CellCover withInputs(int n) {
        CellCover x = new CellCover();
        for (int i = 0; i < n; i++) {
            x.input();
        }
        return x;
    }
}
