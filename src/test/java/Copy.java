import java.util.ArrayList;
import java.util.List;

/**
 * An object that was made by a row of calls. It is asked as often as one likes: since no object is promised anything
 * beyond its 512th call, the same calls make another one ahead of that.
 */
final class Copy {
    static final int MOST_CALLS = 512;

    private final List<String> made;
    private BeeYard yard;
    private int calls;

    Copy(List<String> made) {
        this.made = made;
        makeAnew();
    }

    /** Another one, by these calls and some more. */
    Copy with(List<String> more) {
        List<String> all = new ArrayList<>(made);
        all.addAll(more);
        return new Copy(all);
    }

    Copy with(String... more) {
        return with(List.of(more));
    }

    /** For calls that change nothing that a later one asks for. */
    int ask(String call) {
        if (calls == MOST_CALLS) {
            makeAnew();
        }
        calls++;
        return Calls.make(yard, call);
    }

    /** What a call would answer, which is not made here. */
    int answerOf(String call) {
        return new Copy(made).ask(call);
    }

    private void makeAnew() {
        if (made.size() >= MOST_CALLS) {
            throw new IllegalStateException("no call is left to ask an object of " + made.size() + " calls");
        }
        yard = new BeeYard();
        for (String call : made) {
            Calls.make(yard, call);
        }
        calls = made.size();
    }
}
