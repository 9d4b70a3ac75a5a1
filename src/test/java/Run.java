import java.util.ArrayList;
import java.util.List;

/**
 * A run of calls on one object: each answer and each STATUS is held against what is due, and the calls are counted, so
 * that no test rests on more than the 512 that are promised.
 */
final class Run {
    private final String test;
    private final List<String> faults = new ArrayList<>();
    private BeeYard yard = new BeeYard();
    private int calls = 0;
    private List<String> asked = new ArrayList<>();
    /** The same, without what was refused: an object of these calls must be like this one. */
    private List<String> kept = new ArrayList<>();

    Run(String test) {
        this.test = test;
    }

    List<String> faults() {
        return faults;
    }

    /** A new object takes the place of the one so far. */
    void anew() {
        yard = new BeeYard();
        calls = 0;
        asked = new ArrayList<>();
        kept = new ArrayList<>();
    }

    /** Calls that prepare a test, with a semicolon between them: none may be refused. */
    void does(String many) {
        for (String call : many.split(";")) {
            prepare(call.trim());
        }
    }

    void does(int times, String call) {
        for (int i = 0; i < times; i++) {
            prepare(call);
        }
    }

    /** For sums of answers. */
    int answer(String call) {
        int got = make(call);
        kept.add(call);
        return got;
    }

    /** An answer with STATUS 0. */
    void gives(int due, String call) {
        int got = make(call);
        kept.add(call);
        hold(call, got, due);
        hold("status() after " + call, count("status()"), 0);
    }

    /** An answer of one of the calls that leave STATUS as it was. */
    void tells(int due, String call) {
        int was = count("status()");
        int got = make(call);
        kept.add(call);
        hold(call, got, due);
        hold("status() after " + call, count("status()"), was);
    }

    /** A refused call: -1, this STATUS, and nothing else is as if it had been made. */
    void refuses(int status, String call) {
        int got = make(call);
        hold(call, got, -1);
        hold("status() after " + call, count("status()"), status);
        holdLikeKept(call);
    }

    /** A move() of which so many came: all is as after a move() of just these. */
    void stops(int status, int came, int from, int to, int n) {
        String call = "move(" + from + ", " + to + ", " + n + ")";
        int got = make(call);
        kept.add("move(" + from + ", " + to + ", " + came + ")");
        hold(call, got, -1);
        hold("status() after " + call, count("status()"), status);
        hold("moved() after " + call, count("moved()"), came);
        holdLikeKept(call);
    }

    /** A CHANGE, made on a copy alone: undo() brings back all that it may, once. */
    void takesBack(String call) {
        Copy before = new Copy(asked);
        Copy after = before.with(call);
        Copy undone = before.with(call, "undo()");
        hold("undo() after " + call, after.answerOf("undo()"), 1);
        hold("undo() after undo() of " + call, undone.answerOf("undo()"), 0);
        holdLike("undo() of " + call, Told.yard(undone), Told.yard(before));
        holdLike("undo() leaves, after " + call, leftByUndo(undone), leftByUndo(after));
    }

    /** A call that is not refused, yet no CHANGE, made on a copy alone: undo() takes back what it did without it. */
    void isNoChange(String call) {
        Copy before = new Copy(asked);
        Copy after = before.with(call);
        hold("status() after " + call, after.ask("status()"), 0);
        holdLike(call, Told.yard(after), Told.yard(before));
        hold("undo() after " + call, after.answerOf("undo()"), before.answerOf("undo()"));
        holdLike("undo() after " + call, Told.yard(after.with("undo()")), Told.yard(before.with("undo()")));
    }

    /** Two rows of calls, with semicolons between them, each made on a copy alone: all is alike then, but one step back. */
    void areAlike(String some, String others) {
        Copy one = new Copy(asked).with(some.split("; "));
        Copy other = new Copy(asked).with(others.split("; "));
        holdLike(some, Told.yard(one) + Told.bodies(one), Told.yard(other) + Told.bodies(other));
    }

    /** Which BODIES a call runs, made on a copy alone; one that runs twice stands here twice. */
    void runs(String call, int... bodies) {
        Copy before = new Copy(asked);
        Copy after = before.with(call);
        int[] due = new int[17];
        for (int b : bodies) {
            due[b]++;
        }
        for (int b = 0; b < 17; b++) {
            int runs = after.ask("trace(" + b + ")") - before.ask("trace(" + b + ")");
            hold("runs of BODY " + b + " by " + call, runs, due[b]);
        }
    }

    /** 'h' of section 6, at '#', where there are so many HIVES. */
    void refusesHives(String form, int hives) {
        for (String h : new String[] {"MIN", "-1", "40", "MAX"}) {
            refuses(2, form.replace("#", h));
        }
        if (hives < 40) {
            refuses(1, form.replace("#", "" + hives));
            refuses(1, form.replace("#", "39"));
        }
    }

    /** 't' of section 6, at '#', where there are so many THINGS; -1 is left out, since it has a meaning to some calls. */
    void refusesThings(String form, int things) {
        for (String t : new String[] {"MIN", "-2", "200", "MAX"}) {
            refuses(2, form.replace("#", t));
        }
        if (things < 200) {
            refuses(1, form.replace("#", "" + things));
            refuses(1, form.replace("#", "199"));
        }
    }

    /** 'p' of section 6, at '#', of two HIVES, the first with one BOX, the other with none. */
    void refusesPlaces(String form) {
        for (String p : new String[] {"MIN", "-1", "3840", "MAX"}) {
            refuses(2, form.replace("#", p));
        }
        for (String p : new String[] {"12", "95", "96", "191", "192", "3839"}) {
            refuses(1, form.replace("#", p));
        }
    }

    void hold(String what, long got, long due) {
        if (got != due) {
            faults.add(test + ": " + what + " answered " + got + ", due is " + due);
        }
    }

    private static String leftByUndo(Copy c) {
        return Told.bodies(c) + Told.rows(c) + Told.nextNumber(c);
    }

    private void prepare(String call) {
        int got = make(call);
        kept.add(call);
        if (got == -1) {
            hold("status() after " + call + ", which prepares,", count("status()"), 0);
        }
    }

    private int make(String call) {
        asked.add(call);
        return count(call);
    }

    private int count(String call) {
        calls++;
        if (calls == Copy.MOST_CALLS + 1) {
            faults.add(test + ": more than " + Copy.MOST_CALLS + " calls of one object");
        }
        return Calls.make(yard, call);
    }

    private void holdLikeKept(String call) {
        holdLike(call, Told.all(new Copy(asked)), Told.all(new Copy(kept)));
    }

    private void holdLike(String what, String got, String due) {
        if (got.equals(due)) {
            return;
        }
        String[] gotLines = got.split("\n");
        String[] dueLines = due.split("\n");
        int i = 0;
        while (i < gotLines.length && i < dueLines.length && gotLines[i].equals(dueLines[i])) {
            i++;
        }
        faults.add(test + ": " + what + ": all is not as due:" + lineOf(gotLines, i) + " in place of" + lineOf(dueLines, i));
    }

    private static String lineOf(String[] lines, int i) {
        return i < lines.length ? lines[i] : " nothing";
    }
}
