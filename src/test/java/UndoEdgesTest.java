/** Promise 46, and what the terms' section 6 says of CHANGES: a test for each sentence that names a boundary. */
public final class UndoEdgesTest {
    private UndoEdgesTest() {
    }

    public static void main(String[] args) throws IllegalAccessException {
        Edges.run(UndoEdgesTest.class);
    }

    /** Something of all that there is: what a step back could forget. */
    private static void richYard(Run y) {
        y.does("hive(700); hive(300); hive(50); box(0); box(0); box(1); frame(0, 8); frame(13, 64); frame(96, 9); frame(97, 3)");
        y.does("thing(0); thing(1); thing(2); thing(3); thing(1); line(1, 0, 3); line(2, 1, -1); lay(2, 20)");
        y.does("slot(0, 2); slot(1, 1); slot(2, 0); swarm(2, 4); swarm(0, 5)");
        y.does("bring(0, 900); bring(1, 400); put(0, 7, 300); put(96, 8, 400); put(13, 63, 200); out(97); day(5)");
        y.does("harvest(0); bring(0, 50); harvest(96); bring(1, 60); harvest(13); undo(); harvest(13)");
        y.does("thing(1); mate(7, 3); lay(7, 33); line(7, 0, 3); sample(0, 3, 40); sample(1, 5, 60); due(0, 4, 5); due(1, 6, 7)");
        y.does("export(13); share(0, 7); plan(1, 2); move(96, 13, 1); bring(1, 333); day(20)");
    }

    private static void undone(Run y, String call) {
        richYard(y);
        y.takesBack(call);
    }

    static void promise46_undo_none(Run y) {
        y.gives(0, "undo()");
        y.refuses(6, "hive(-1)");
        y.gives(0, "undo()");
        y.does("honey(0); plan(0, 0); move(0, 0, 0)");
        y.gives(0, "undo()");
    }

    static void promise46_undo_onceAlone(Run y) {
        y.does("hive(3); hive(4)");
        y.gives(1, "undo()");
        y.gives(0, "undo()");
        y.gives(0, "undo()");
        y.gives(3, "inspect(0, 0)");
        y.refuses(1, "inspect(1, 0)");
    }

    static void promise46_undo_againBehindANewChange(Run y) {
        y.does("hive(3); hive(4); undo()");
        y.gives(1, "hive(5)");
        y.gives(1, "undo()");
        y.gives(0, "undo()");
        y.refuses(1, "inspect(1, 0)");
        y.gives(3, "inspect(0, 0)");
    }

    static void promise46_undo_theFirstOfAll(Run y) {
        y.does("hive(3)");
        y.gives(1, "undo()");
        y.refuses(1, "inspect(0, 0)");
        y.gives(0, "hive(4)");
    }

    static void promise46_undo_refusedCallsAreNotTakenBack(Run y) {
        y.does("hive(3); box(0)");
        y.refuses(6, "hive(20001)");
        y.refuses(2, "box(40)");
        y.refuses(1, "frame(12, 3)");
        y.gives(1, "undo()");
        y.gives(0, "inspect(0, 3)");
        y.refuses(6, "hive(20001)");
        y.gives(0, "undo()");
    }

    static void promise46_undo_hive(Run y) {
        undone(y, "hive(1)");
    }

    static void promise46_undo_box(Run y) {
        undone(y, "box(0)");
    }

    static void promise46_undo_frame(Run y) {
        undone(y, "frame(1, 5)");
    }

    static void promise46_undo_out(Run y) {
        undone(y, "out(0)");
    }

    static void promise46_undo_back(Run y) {
        undone(y, "back(0, 98)");
    }

    static void promise46_undo_put(Run y) {
        undone(y, "put(13, 0, 400)");
        y.takesBack("put(0, 0, 0)");
    }

    static void promise46_undo_bring(Run y) {
        undone(y, "bring(1, 5000)");
        y.takesBack("bring(0, 0)");
    }

    static void promise46_undo_harvest(Run y) {
        undone(y, "harvest(13)");
        y.takesBack("harvest(0)");
    }

    static void promise46_undo_move(Run y) {
        undone(y, "move(96, 13, 1)");
        y.takesBack("move(96, 96, 1)");
        y.takesBack("move(96, 13, 2)");
    }

    static void promise46_undo_stack(Run y) {
        undone(y, "stack(0, 1)");
    }

    static void promise46_undo_join(Run y) {
        undone(y, "join(0, 1)");
        y.takesBack("join(2, 0)");
    }

    static void promise46_undo_split(Run y) {
        undone(y, "split(0, 1, 2)");
        y.takesBack("split(0, 2, 2)");
    }

    static void promise46_undo_thing(Run y) {
        undone(y, "thing(3)");
    }

    static void promise46_undo_line(Run y) {
        undone(y, "line(4, 2, 3)");
        y.takesBack("line(1, -1, -1)");
        y.takesBack("line(0, 4, -1)");
    }

    static void promise46_undo_slot(Run y) {
        undone(y, "slot(2, 4)");
        y.takesBack("slot(0, -1)");
        y.takesBack("slot(2, -1)");
    }

    static void promise46_undo_lay(Run y) {
        undone(y, "lay(2, 99)");
    }

    static void promise46_undo_mate(Run y) {
        undone(y, "mate(4, 3)");
        y.takesBack("mate(1, 3)");
    }

    static void promise46_undo_day(Run y) {
        undone(y, "day(1)");
        y.takesBack("day(30)");
    }

    static void promise46_undo_swarm(Run y) {
        undone(y, "swarm(1, 4)");
        y.takesBack("swarm(1, 5)");
    }

    static void promise46_undo_settle(Run y) {
        undone(y, "settle(5, 2)");
        y.takesBack("settle(5, 0)");
        y.takesBack("settle(6, 1)");
    }

    static void promise46_undo_sample(Run y) {
        undone(y, "sample(1, 9, 9)");
    }

    static void promise46_undo_treat(Run y) {
        undone(y, "treat(0)");
        y.takesBack("treat(2)");
    }

    static void promise46_undo_due(Run y) {
        undone(y, "due(1, 0, 0)");
        y.takesBack("due(0, 30, 1000)");
        y.takesBack("due(2, 0, 0)");
    }

    static void promise46_undo_takesBackNoCallThatIsNoChange(Run y) {
        richYard(y);
        String[] calls = {"at(0)", "where(0)", "field(0, 0)", "ledger(0, 0)", "honey(0)", "move(0, 1, 0)", "moved()", "kin(1, 2)",
            "ask(0, 2)", "share(0, 3)", "shared(0)", "mites(0, 2)", "compare(0, 1)", "plan(2, 3)", "chosen(0)", "inspect(0, 0)",
            "gap(0)", "find(0, 0)", "export(0)", "letter(0)", "copy(0, 1, 2)", "trace(0)", "digest()", "status()"};
        for (String call : calls) {
            y.isNoChange(call);
        }
    }

    static void promise46_undo_leavesBodiesCounts(Run y) {
        y.does("hive(10); thing(0); slot(0, 0); day(2)");
        y.gives(1, "undo()");
        y.tells(2, "trace(0)");
        y.tells(2, "trace(4)");
        y.tells(2, "trace(16)");
        y.gives(0, "ask(0, 1)");
        y.does("day(1)");
        y.tells(3, "trace(16)");
        y.gives(1, "ask(0, 1)");
    }

    static void promise46_undo_leavesTheLedgersNextNumber(Run y) {
        y.does("hive(0); box(0); frame(0, 1); harvest(0)");
        y.gives(1, "undo()");
        y.refuses(1, "ledger(0, 0)");
        y.does("harvest(0); undo(); harvest(0)");
        y.gives(2, "ledger(0, 0)");
        y.refuses(1, "ledger(1, 0)");
    }

    static void promise46_undo_leavesRowsPlanAndMoved(Run y) {
        y.does("hive(9); hive(0); box(0); box(1); frame(0, 2); frame(96, 2); put(0, 0, 200); sample(0, 1, 1); due(0, 2, 1)");
        y.does("share(0, 2); export(0); plan(0, 1); move(0, 96, 1)");
        y.gives(1, "undo()");
        y.tells(1, "moved()");
        y.gives(5, "shared(0)");
        y.gives('p', "letter(0)");
        y.gives(0, "chosen(0)");
    }

    /** What stands in the terms' row of a HIVE, and of a THING, comes back each by each. */
    static void promise46_undo_aDayOnEverything(Run y) {
        richYard(y);
        int bees = y.answer("inspect(0, 0)");
        int drones = y.answer("inspect(1, 1)");
        int hunger = y.answer("inspect(0, 2)");
        int eaten = y.answer("honey(2)");
        int load = y.answer("ask(6, 3)");
        y.gives(55, "day(30)");
        y.gives(1, "undo()");
        y.gives(bees, "inspect(0, 0)");
        y.gives(drones, "inspect(1, 1)");
        y.gives(hunger, "inspect(0, 2)");
        y.gives(eaten, "honey(2)");
        y.gives(load, "ask(6, 3)");
        y.gives(50, "ask(1, 1)");
        y.gives(26, "day(1)");
    }
}
