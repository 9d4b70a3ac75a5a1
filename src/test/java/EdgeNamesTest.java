import java.lang.reflect.Method;
import java.util.TreeMap;

/** Every promise has tests at its boundaries, and they bear its name. */
public final class EdgeNamesTest {
    private static final Class<?>[] EDGES = {YardEdgesTest.class, HoneyEdgesTest.class, MoveEdgesTest.class, ThingEdgesTest.class,
        DayEdgesTest.class, MiteEdgesTest.class, LookEdgesTest.class, UndoEdgesTest.class};
    private static final String[] NAMES = {"new", "hive", "box", "frame", "out", "back", "at", "where", "field", "put", "bring",
        "harvest", "ledger", "honey", "move", "moved", "stack", "join", "split", "thing", "line", "kin", "ask", "slot", "lay", "mate",
        "day", "swarm", "settle", "share", "shared", "sample", "mites", "compare", "treat", "due", "plan", "chosen", "inspect", "gap",
        "find", "export", "letter", "copy", "trace", "undo", "digest", "status"};

    private EdgeNamesTest() {
    }

    public static void main(String[] args) {
        Check c = new Check();
        c.about("edges");
        TreeMap<Integer, Integer> counts = new TreeMap<>();
        for (Class<?> edges : EDGES) {
            for (Method test : Edges.testsOf(edges)) {
                int promise = Edges.promiseOf(test);
                counts.merge(promise, 1, Integer::sum);
                String due = promise == 0 ? "terms_" : "promise" + promise + "_" + NAMES[promise - 1] + "_";
                c.is(test.getName() + " begins with " + due, test.getName().startsWith(due) ? 1 : 0, 1);
            }
        }
        for (int promise = 0; promise <= NAMES.length; promise++) {
            c.is("promise " + promise + " has tests", counts.getOrDefault(promise, 0) > 0 ? 1 : 0, 1);
        }
        c.done("EdgeNamesTest");
    }
}
