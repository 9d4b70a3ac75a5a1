/** Counts and prints what is not as due; every test ends with done(). */
final class Check {
    private int wrong = 0;
    private String about = "";

    void about(String what) {
        about = what;
    }

    void is(String call, long got, long due) {
        if (got != due) {
            wrong++;
            System.out.println(about + ": " + call + " answered " + got + ", due is " + due);
        }
    }

    /** An answer with STATUS 0. */
    void answer(BeeYard x, String call, int got, int due) {
        is(call, got, due);
        is("status() after " + call, x.status(), 0);
    }

    /** A call that is refused: with -1, and with this STATUS. */
    void refused(BeeYard x, String call, int got, int status) {
        is(call, got, -1);
        is("status() after " + call, x.status(), status);
    }

    void done(String name) {
        System.out.println(wrong == 0 ? name + ": all answers are as due" : name + ": " + wrong + " answers are not as due");
        if (wrong != 0) {
            System.exit(1);
        }
    }
}
