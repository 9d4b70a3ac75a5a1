import java.util.ArrayList;
import java.util.List;

/** All that the calls tell of an object, as texts to be compared. */
final class Told {
    private static final int BODIES = 17;

    private Told() {
    }

    /** Everything but STATUS: two objects with the same text here can't be told apart, one step back neither. */
    static String all(Copy c) {
        Copy undone = c.with("undo()");
        return yard(c) + bodies(c) + rows(c) + nextNumber(c)
            + " undo " + c.answerOf("undo()") + yard(undone) + rows(undone);
    }

    /** What undo() brings back: sections 1 to 3, less BODIES' counts and the LEDGER's next number. */
    static String yard(Copy c) {
        StringBuilder all = new StringBuilder();
        all.append("\n rest of digest ").append(digestLessBodies(c));
        for (int what = 0; what < 5; what++) {
            add(all, c, "honey(" + what + ")");
        }
        int hives = addHives(all, c);
        addFrames(all, c);
        addThings(all, c);
        addLedger(all, c);
        addWashingsAndTreatings(all, c, hives);
        return all.toString();
    }

    static String bodies(Copy c) {
        StringBuilder all = new StringBuilder();
        // Another one, since yard() runs some BODIES of the one that it asks.
        Copy untouched = c.with();
        for (int b = 0; b < BODIES; b++) {
            add(all, untouched, "trace(" + b + ")");
        }
        return all.toString();
    }

    /** What undo() leaves: moved(), and the rows that are kept. */
    static String rows(Copy c) {
        StringBuilder all = new StringBuilder();
        add(all, c, "moved()");
        for (String row : new String[] {"shared", "letter", "chosen"}) {
            int i = 0;
            while (c.ask(row + "(" + i + ")") != -1) {
                add(all, c, row + "(" + i + ")");
                i++;
            }
            add(all, c, row + "(" + i + ")");
            all.append(" with STATUS ").append(c.ask("status()"));
        }
        return all.toString();
    }

    /** The number of the LEDGER's next entry, if a FRAME is there to be harvested. */
    static String nextNumber(Copy c) {
        int entries = 0;
        while (c.ask("ledger(" + entries + ", 0)") != -1) {
            entries++;
        }
        for (int n = 0; c.ask("where(" + n + ")") != -1; n++) {
            int p = c.ask("where(" + n + ")");
            if (p >= 0) {
                return "\n next number " + c.with("harvest(" + p + ")").ask("ledger(" + entries + ", 0)");
            }
        }
        return "\n no FRAME to harvest";
    }

    private static void add(StringBuilder all, Copy c, String call) {
        all.append("\n ").append(call).append(' ').append(c.ask(call));
    }

    /** d * 31 + x is taken back, once for each BODY, by the number that times 31 is 1 in wrapping ints. */
    private static int digestLessBodies(Copy c) {
        int d = c.ask("digest()");
        int back = 1;
        for (int i = 0; i < 5; i++) {
            back *= 2 - 31 * back;
        }
        for (int b = BODIES - 1; b >= 0; b--) {
            d = (d - c.ask("trace(" + b + ")")) * back;
        }
        return d;
    }

    private static int addHives(StringBuilder all, Copy c) {
        int h = 0;
        while (c.ask("inspect(" + h + ", 0)") != -1) {
            for (int what = 0; what < 12; what++) {
                add(all, c, "inspect(" + h + ", " + what + ")");
            }
            add(all, c, "gap(" + h + ")");
            add(all, c, "mites(" + h + ", 0)");
            add(all, c, "mites(" + h + ", 1)");
            h++;
        }
        return h;
    }

    private static void addFrames(StringBuilder all, Copy c) {
        for (int n = 0; c.ask("where(" + n + ")") != -1; n++) {
            add(all, c, "where(" + n + ")");
        }
    }

    private static void addThings(StringBuilder all, Copy c) {
        for (int t = 0; c.ask("ask(" + t + ", 0)") != -1; t++) {
            for (int what : new int[] {0, 1, 3, 8, 9, 10, 11, 12, 13, 14}) {
                add(all, c, "ask(" + t + ", " + what + ")");
            }
        }
    }

    private static void addLedger(StringBuilder all, Copy c) {
        for (int k = 0; c.ask("ledger(" + k + ", 0)") != -1; k++) {
            for (int what = 0; what < 3; what++) {
                add(all, c, "ledger(" + k + ", " + what + ")");
            }
        }
    }

    /** No call asks for these: so WASHINGS are told by one more, TREATINGS by plans in which growth alone makes the MITES. */
    private static void addWashingsAndTreatings(StringBuilder all, Copy c, int hives) {
        List<String> washed = new ArrayList<>();
        for (int h = 0; h < hives; h++) {
            String sample = "sample(" + h + ", 0, 10000)";
            all.append("\n ").append(sample).append(' ').append(c.answerOf(sample));
            washed.add("treat(" + h + ")");
            washed.add(sample);
        }
        Copy known = c.with(washed);
        for (int a : new int[] {0, 1, 2, 3, 5, 8, 13, 21, 34, 55, 89, 144, 233, 377, 610, 987, 1597, 2584, 4181, 6765}) {
            add(all, known, "plan(" + a + ", 10000)");
            all.append(" with STATUS ").append(known.ask("status()"));
            for (int i = 0; i < 8; i++) {
                all.append(' ').append(known.ask("chosen(" + i + ")"));
            }
        }
    }
}
