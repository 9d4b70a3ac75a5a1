/** Promises 15 to 19: a test for each sentence that names a boundary. */
public final class MoveEdgesTest {
    private static final int MIN = Integer.MIN_VALUE;
    private static final int MAX = Integer.MAX_VALUE;

    private MoveEdgesTest() {
    }

    public static void main(String[] args) throws IllegalAccessException {
        Edges.run(MoveEdgesTest.class);
    }

    private static void hivesWithBoxes(Run y, int... boxes) {
        for (int h = 0; h < boxes.length; h++) {
            y.does("hive(100)");
            y.does(boxes[h], "box(" + h + ")");
        }
    }

    // ---- 15 move

    static void promise15_move_count0To12(Run y) {
        hivesWithBoxes(y, 1, 1);
        Yards.frames(y, 0, 12, 1);
        Yards.frames(y, 96, 12, 1);
        y.does("put(0, 0, 200); put(11, 0, 200)");
        y.refuses(5, "move(0, 96, MIN)");
        y.refuses(5, "move(0, 96, -1)");
        y.gives(0, "move(0, 96, 0)");
        y.gives(2, "inspect(0, 11)");
        y.gives(1, "move(0, 96, 1)");
        y.gives(1, "inspect(1, 11)");
        y.gives(12, "move(0, 96, 12)");
        y.gives(1, "inspect(1, 11)");
        y.gives(200, "field(107, 0)");
        y.refuses(6, "move(0, 96, 13)");
        y.refuses(6, "move(0, 96, MAX)");
    }

    static void promise15_move_countAheadOfPlaces(Run y) {
        y.refuses(6, "move(-1, 3840, 13)");
        y.refuses(6, "move(0, 96, 13)");
        y.refuses(5, "move(-1, 3840, -1)");
        y.refuses(5, "move(0, 96, -1)");
        y.gives(0, "move(-1, 3840, 0)");
        y.gives(0, "move(MAX, MIN, 0)");
    }

    static void promise15_move_fromPlaces(Run y) {
        hivesWithBoxes(y, 1, 0);
        y.does("frame(0, 1)");
        for (int p : new int[] {MIN, -1, 3840, MAX}) {
            y.stops(2, 0, p, 0, 1);
        }
        for (int p : new int[] {12, 95, 96, 192, 3839, 1}) {
            y.stops(1, 0, p, 0, 1);
        }
    }

    static void promise15_move_toPlaces(Run y) {
        hivesWithBoxes(y, 1, 0);
        y.does("frame(0, 1)");
        for (int p : new int[] {MIN, -1, 3840, MAX}) {
            y.stops(2, 0, 0, p, 1);
        }
        for (int p : new int[] {12, 95, 96, 192, 3839, 1}) {
            y.stops(1, 0, 0, p, 1);
        }
    }

    static void promise15_move_fromAheadOfToAheadOfFields(Run y) {
        hivesWithBoxes(y, 1, 0);
        y.does("frame(0, 5); frame(1, 4)");
        y.stops(2, 0, -1, 12, 1);
        y.stops(1, 0, 12, -1, 1);
        y.stops(1, 0, 2, 3840, 1);
        y.stops(2, 0, 0, 3840, 1);
        y.stops(1, 0, 0, 2, 1);
        y.stops(2, 0, 0, 1, 1);
    }

    static void promise15_move_asManyFieldsOrMoreButNotLess(Run y) {
        hivesWithBoxes(y, 1);
        y.does("frame(0, 5); frame(1, 4); frame(2, 5); frame(3, 6); put(0, 4, 200)");
        y.stops(2, 0, 0, 1, 1);
        y.gives(200, "field(0, 4)");
        y.gives(1, "move(0, 2, 1)");
        y.gives(200, "field(2, 4)");
        y.gives(1, "move(2, 3, 1)");
        y.gives(200, "field(3, 4)");
        y.gives(1, "move(1, 0, 1)");
    }

    static void promise15_move_noFields(Run y) {
        hivesWithBoxes(y, 1);
        y.does("frame(0, 0); frame(1, 0); frame(2, 1); put(2, 0, 200)");
        y.gives(1, "move(0, 1, 1)");
        y.gives(1, "move(0, 2, 1)");
        y.gives(200, "field(2, 0)");
        y.stops(2, 0, 2, 0, 1);
    }

    static void promise15_move_all64Fields(Run y) {
        hivesWithBoxes(y, 1);
        y.does("frame(0, 64); frame(1, 64); put(0, 0, 200); put(0, 63, 300)");
        y.gives(1, "move(0, 1, 1)");
        y.gives(200, "field(1, 0)");
        y.gives(300, "field(1, 63)");
        y.gives(0, "field(0, 0)");
        y.gives(0, "field(0, 63)");
    }

    static void promise15_move_fieldsBeyondThoseThatComeStay(Run y) {
        hivesWithBoxes(y, 1, 1);
        y.does("frame(0, 2); frame(96, 4); bring(1, 350); put(0, 0, 200)");
        y.gives(1, "move(0, 96, 1)");
        y.gives(200, "field(96, 0)");
        y.gives(0, "field(96, 1)");
        y.gives(100, "field(96, 2)");
        y.gives(50, "field(96, 3)");
        y.gives(200, "honey(3)");
    }

    static void promise15_move_spillsHoneyOf1AndOf100(Run y) {
        hivesWithBoxes(y, 1, 1);
        y.does("frame(0, 2); frame(96, 2); bring(1, 101)");
        y.gives(1, "move(0, 96, 1)");
        y.gives(101, "honey(3)");
        y.gives(0, "honey(0)");
    }

    static void promise15_move_spillsNothingElse(Run y) {
        hivesWithBoxes(y, 1, 1);
        y.does("frame(0, 3); frame(96, 3); bring(0, 250); put(96, 0, 200); put(96, 1, 300); put(96, 2, 400)");
        y.gives(1, "move(0, 96, 1)");
        y.gives(0, "honey(3)");
        y.gives(250, "inspect(1, 6)");
        y.gives(3, "inspect(0, 10)");
    }

    static void promise15_move_aFrameToItselfStays(Run y) {
        hivesWithBoxes(y, 1);
        y.does("frame(0, 3); frame(1, 2); bring(0, 250); put(0, 2, 300)");
        y.gives(2, "move(0, 0, 2)");
        y.tells(2, "moved()");
        y.gives(100, "field(0, 0)");
        y.gives(100, "field(0, 1)");
        y.gives(300, "field(0, 2)");
        y.gives(50, "honey(3)");
        y.stops(1, 2, 0, 0, 3);
    }

    static void promise15_move_oneAfterTheOther(Run y) {
        hivesWithBoxes(y, 1);
        Yards.frames(y, 0, 4, 1);
        y.does("put(0, 0, 200); put(1, 0, 300); bring(0, 10)");
        y.gives(3, "move(0, 1, 3)");
        y.gives(200, "field(3, 0)");
        y.gives(3, "inspect(0, 10)");
        y.gives(10, "honey(3)");
        y.does("put(2, 0, 300); put(1, 0, 400)");
        y.gives(3, "move(1, 0, 3)");
        y.gives(400, "field(0, 0)");
        y.gives(300, "field(1, 0)");
        y.gives(200, "field(2, 0)");
        y.gives(0, "field(3, 0)");
    }

    static void promise15_move_stopsWhereFromLeavesTheBoxes(Run y) {
        hivesWithBoxes(y, 1, 1);
        y.does("frame(10, 1); frame(11, 1); put(10, 0, 200); put(11, 0, 300)");
        Yards.frames(y, 96, 12, 1);
        y.stops(1, 2, 10, 96, 3);
        y.gives(200, "field(96, 0)");
        y.gives(300, "field(97, 0)");
        y.gives(0, "field(10, 0)");
    }

    static void promise15_move_goesOnIntoTheNextBox(Run y) {
        hivesWithBoxes(y, 2, 1);
        y.does("frame(11, 1); frame(12, 1); put(11, 0, 200); put(12, 0, 300); frame(96, 1); frame(97, 1)");
        y.gives(2, "move(11, 96, 2)");
        y.gives(300, "field(97, 0)");
    }

    static void promise15_move_stopsWhereToLeavesTheBoxes(Run y) {
        hivesWithBoxes(y, 1, 1);
        y.does("frame(10, 1); frame(11, 1); frame(96, 1); frame(97, 1); frame(98, 1)");
        y.does("put(96, 0, 200); put(98, 0, 300)");
        y.stops(1, 2, 96, 10, 12);
        y.gives(200, "field(10, 0)");
        y.gives(300, "field(98, 0)");
    }

    static void promise15_move_stopsBehindPlace3839(Run y) {
        Yards.lastPlaces(y);
        y.does("box(0); frame(3838, 1); frame(3839, 1); frame(0, 1); frame(1, 1); frame(2, 1)");
        y.does("put(0, 0, 200); put(1, 0, 300); put(2, 0, 400)");
        y.stops(2, 2, 0, 3838, 12);
        y.gives(200, "field(3838, 0)");
        y.gives(300, "field(3839, 0)");
        y.gives(400, "field(2, 0)");
        y.stops(2, 2, 3838, 0, 3);
        y.gives(2, "move(0, 3838, 2)");
    }

    static void promise15_move_stopsAtTheFirstWithoutFrame(Run y) {
        hivesWithBoxes(y, 1, 1);
        Yards.frames(y, 0, 3, 1);
        y.does("frame(96, 1); frame(98, 1); put(0, 0, 200); put(1, 0, 200); put(2, 0, 200)");
        y.stops(1, 1, 0, 96, 3);
        y.gives(2, "inspect(0, 11)");
        y.gives(1, "inspect(1, 11)");
        y.gives(0, "field(98, 0)");
        y.stops(1, 1, 96, 0, 3);
        y.gives(3, "inspect(0, 11)");
    }

    static void promise15_move_stopsAtTheFirstWithLessFields(Run y) {
        hivesWithBoxes(y, 1, 1);
        Yards.frames(y, 0, 3, 4);
        y.does("frame(96, 4); frame(97, 4); frame(98, 3); put(2, 0, 200); bring(1, 250)");
        y.stops(2, 2, 0, 96, 3);
        y.gives(200, "field(2, 0)");
        y.gives(250, "honey(3)");
    }

    static void promise15_move_isAChangeIfAnyCame(Run y) {
        hivesWithBoxes(y, 1, 1);
        Yards.frames(y, 0, 3, 2);
        Yards.frames(y, 96, 2, 2);
        y.does("bring(0, 250); bring(1, 330); put(0, 1, 300)");
        y.takesBack("move(0, 96, 1)");
        y.takesBack("move(0, 96, 2)");
        y.takesBack("move(0, 96, 3)");
        y.takesBack("move(0, 0, 1)");
    }

    static void promise15_move_isNoChangeIfNoneCame(Run y) {
        hivesWithBoxes(y, 1);
        y.does("frame(0, 1); put(0, 0, 200)");
        y.isNoChange("move(0, 1, 0)");
        y.stops(1, 0, 0, 1, 1);
        y.stops(1, 0, 1, 0, 1);
        y.gives(1, "undo()");
        y.gives(0, "field(0, 0)");
        y.stops(1, 0, 0, 1, 1);
        y.gives(0, "undo()");
    }

    // ---- 16 moved

    static void promise16_moved_0AheadOfAll(Run y) {
        y.tells(0, "moved()");
        y.refuses(6, "move(0, 0, 13)");
        y.tells(0, "moved()");
        y.refuses(5, "move(0, 0, -1)");
        y.tells(0, "moved()");
    }

    static void promise16_moved_ofTheLatestFrom0To12(Run y) {
        hivesWithBoxes(y, 1, 1);
        Yards.frames(y, 0, 12, 1);
        Yards.frames(y, 96, 12, 1);
        y.does("move(0, 96, 12)");
        y.tells(12, "moved()");
        y.refuses(6, "move(0, 96, 13)");
        y.tells(12, "moved()");
        y.refuses(5, "move(0, 96, -1)");
        y.tells(12, "moved()");
        y.does("move(0, 96, 11)");
        y.tells(11, "moved()");
        y.does("move(0, 96, 0)");
        y.tells(0, "moved()");
    }

    static void promise16_moved_ofOneThatStopped(Run y) {
        hivesWithBoxes(y, 1, 1);
        Yards.frames(y, 0, 3, 1);
        Yards.frames(y, 96, 2, 1);
        y.stops(1, 2, 0, 96, 12);
        y.tells(2, "moved()");
        y.stops(1, 0, 3, 96, 1);
        y.tells(0, "moved()");
    }

    static void promise16_moved_isLeftByUndo(Run y) {
        hivesWithBoxes(y, 1, 1);
        y.does("frame(0, 1); frame(96, 1); move(0, 96, 1); undo()");
        y.tells(1, "moved()");
    }

    // ---- 17 stack

    static void promise17_stack_hiveNumbers(Run y) {
        hivesWithBoxes(y, 1, 1);
        y.refusesHives("stack(#, 0)", 2);
        y.refusesHives("stack(0, #)", 2);
        y.gives(1, "stack(0, 1)");
    }

    static void promise17_stack_hiveNumber39(Run y) {
        y.does(40, "hive(0)");
        y.does("box(39)");
        y.gives(0, "stack(39, 0)");
        y.gives(0, "stack(0, 39)");
    }

    static void promise17_stack_noBox(Run y) {
        hivesWithBoxes(y, 1, 0);
        y.refuses(2, "stack(1, 0)");
        y.gives(0, "stack(0, 1)");
        y.refuses(2, "stack(0, 1)");
        y.gives(0, "inspect(0, 3)");
    }

    static void promise17_stack_notOnItself(Run y) {
        hivesWithBoxes(y, 1, 8);
        y.refuses(6, "stack(0, 0)");
        y.refuses(6, "stack(1, 1)");
    }

    static void promise17_stack_8AtMost(Run y) {
        hivesWithBoxes(y, 2, 7);
        y.does("frame(12, 1); frame(0, 2)");
        y.gives(7, "stack(0, 1)");
        y.gives(96 + 84, "where(0)");
        y.refuses(6, "stack(0, 1)");
        y.gives(0, "where(1)");
        y.gives(8, "inspect(1, 3)");
    }

    static void promise17_stack_theTopBoxAlone(Run y) {
        hivesWithBoxes(y, 3, 0);
        y.does("frame(0, 1); frame(12, 1); frame(24, 1); frame(35, 1)");
        y.gives(0, "stack(0, 1)");
        y.gives(0, "where(0)");
        y.gives(12, "where(1)");
        y.gives(96, "where(2)");
        y.gives(107, "where(3)");
        y.refuses(1, "at(24)");
        y.gives(100, "inspect(0, 0)");
        y.gives(100, "inspect(1, 0)");
    }

    static void promise17_stack_statusesInOrder(Run y) {
        hivesWithBoxes(y, 0, 8, 1);
        y.refuses(2, "stack(-1, 39)");
        y.refuses(1, "stack(39, -1)");
        y.refuses(1, "stack(0, 39)");
        y.refuses(2, "stack(0, 0)");
        y.refuses(2, "stack(0, 1)");
        y.refuses(6, "stack(2, 1)");
        y.refuses(6, "stack(2, 2)");
    }

    // ---- 18 join

    static void promise18_join_hiveNumbers(Run y) {
        hivesWithBoxes(y, 1, 1);
        y.refusesHives("join(#, 0)", 2);
        y.refusesHives("join(0, #)", 2);
        y.gives(1, "join(0, 1)");
    }

    static void promise18_join_hiveNumber39(Run y) {
        y.does(40, "hive(3)");
        y.gives(0, "join(39, 0)");
        y.gives(0, "join(0, 39)");
        y.gives(6, "inspect(0, 0)");
    }

    static void promise18_join_notWithItself(Run y) {
        hivesWithBoxes(y, 1, 0);
        y.refuses(6, "join(0, 0)");
        y.refuses(6, "join(1, 1)");
    }

    static void promise18_join_8BoxesAtMost(Run y) {
        hivesWithBoxes(y, 4, 5, 4);
        y.refuses(6, "join(0, 1)");
        y.refuses(6, "join(1, 0)");
        y.gives(4, "join(0, 2)");
        y.gives(8, "inspect(0, 3)");
        y.gives(0, "inspect(2, 3)");
    }

    static void promise18_join_8And0(Run y) {
        hivesWithBoxes(y, 8, 0, 1);
        y.gives(8, "join(0, 1)");
        y.gives(200, "inspect(0, 0)");
        y.refuses(6, "join(0, 2)");
        y.gives(0, "join(1, 0)");
        y.gives(8, "inspect(1, 3)");
        y.gives(0, "inspect(0, 3)");
    }

    static void promise18_join_boxesOnTopInOrder(Run y) {
        hivesWithBoxes(y, 2, 2);
        y.does("frame(0, 1); frame(23, 1); frame(96, 1); frame(119, 1)");
        y.gives(2, "join(0, 1)");
        y.gives(0, "where(0)");
        y.gives(23, "where(1)");
        y.gives(24, "where(2)");
        y.gives(47, "where(3)");
        y.gives(0, "inspect(1, 3)");
    }

    static void promise18_join_gHasNothingThen(Run y) {
        y.does("hive(0); hive(70); box(1); frame(96, 1); put(96, 0, 400); thing(0); slot(1, 0); sample(1, 2, 3); day(24)");
        int bees = y.answer("inspect(1, 0)");
        int hunger = y.answer("inspect(1, 2)");
        y.gives(1, "inspect(1, 1)");
        y.gives(0, "join(0, 1)");
        y.gives(bees, "inspect(0, 0)");
        y.gives(1, "inspect(0, 1)");
        y.gives(hunger, "inspect(0, 2)");
        y.gives(2, "mites(0, 0)");
        y.gives(3, "mites(0, 1)");
        for (int what = 0; what <= 3; what++) {
            y.gives(0, "inspect(1, " + what + ")");
        }
        y.gives(0, "mites(1, 0)");
        y.gives(0, "mites(1, 1)");
        y.gives(0, "ask(0, 13)");
        y.gives(-1, "slot(1, -1)");
        y.gives(2, "sample(0, 0, 1)");
        y.gives(1, "sample(1, 0, 1)");
    }

    static void promise18_join_bothHungersEvenAbove100(Run y) {
        y.does("hive(99); hive(99); day(1)");
        y.gives(0, "join(0, 1)");
        y.gives(198, "inspect(0, 2)");
        y.gives(194, "inspect(0, 0)");
        y.does("day(1)");
        y.gives(92, "inspect(0, 2)");
        y.gives(0, "inspect(0, 0)");
    }

    static void promise18_join_treatingAndFindingStay(Run y) {
        y.does("hive(0); hive(0); due(1, 3, 1); thing(3); slot(1, 0); day(1)");
        y.gives(0, "join(0, 1)");
        y.gives(1, "inspect(0, 4)");
        y.gives(3, "inspect(1, 4)");
        y.does("sample(1, 1, 1)");
        y.gives(3, "plan(0, 1)");
        y.gives(1, "chosen(0)");
    }

    static void promise18_join_slotsOfNeither(Run y) {
        y.does("hive(0); hive(0); join(0, 1)");
        y.gives(-1, "slot(0, -1)");
        y.gives(-1, "slot(1, -1)");
    }

    static void promise18_join_slotOfGIfThatOfHHasNothing(Run y) {
        y.does("hive(0); hive(0); thing(0); slot(1, 0); join(0, 1)");
        y.gives(0, "ask(0, 13)");
        y.gives(-1, "slot(1, -1)");
        y.gives(0, "slot(0, -1)");
    }

    static void promise18_join_slotOfHStays(Run y) {
        y.does("hive(0); hive(0); thing(0); slot(0, 0); join(0, 1)");
        y.gives(0, "ask(0, 13)");
        y.gives(0, "slot(0, -1)");
    }

    static void promise18_join_slotOfGIsInNoneIfBothHave(Run y) {
        y.does("hive(0); hive(0); thing(0); thing(1); slot(0, 0); slot(1, 1); join(0, 1)");
        y.gives(0, "ask(0, 13)");
        y.gives(-1, "ask(1, 13)");
        y.gives(-1, "ask(1, 14)");
        y.gives(-1, "slot(1, 1)");
        y.gives(0, "slot(0, -1)");
    }

    static void promise18_join_statusesInOrder(Run y) {
        hivesWithBoxes(y, 5, 4);
        y.refuses(2, "join(-1, 39)");
        y.refuses(1, "join(39, -1)");
        y.refuses(1, "join(2, 2)");
        y.refuses(2, "join(40, 40)");
        y.refuses(6, "join(0, 1)");
    }

    // ---- 19 split

    static void promise19_split_hiveNumbers(Run y) {
        hivesWithBoxes(y, 1, 0);
        y.refusesHives("split(#, 0, 1)", 2);
        y.refusesHives("split(0, 0, #)", 2);
        y.gives(1, "split(0, 0, 1)");
    }

    static void promise19_split_hiveNumber39(Run y) {
        y.does(40, "hive(8)");
        y.does("box(39)");
        y.gives(1, "split(39, 0, 0)");
        y.gives(1, "split(0, 0, 39)");
        y.gives(16, "inspect(39, 0)");
    }

    static void promise19_split_notIntoItself(Run y) {
        hivesWithBoxes(y, 1, 0);
        y.refuses(6, "split(0, 0, 0)");
        y.refuses(6, "split(1, 0, 1)");
    }

    static void promise19_split_notIntoOneWithBoxes(Run y) {
        hivesWithBoxes(y, 2, 1);
        y.refuses(6, "split(0, 1, 1)");
        y.does("hive(0); stack(1, 2)");
        y.gives(1, "split(0, 1, 1)");
    }

    static void promise19_split_from0ToHowManyItHas(Run y) {
        hivesWithBoxes(y, 3, 0);
        y.refuses(2, "split(0, MIN, 1)");
        y.refuses(2, "split(0, -1, 1)");
        y.refuses(2, "split(0, 4, 1)");
        y.refuses(2, "split(0, MAX, 1)");
        y.gives(0, "split(0, 3, 1)");
        y.gives(100, "inspect(0, 0)");
        y.gives(100, "inspect(1, 0)");
        y.gives(1, "split(0, 2, 1)");
        y.gives(2, "inspect(0, 3)");
        y.gives(1, "inspect(1, 3)");
    }

    static void promise19_split_all(Run y) {
        hivesWithBoxes(y, 3, 0);
        y.does("frame(0, 1); frame(35, 1)");
        y.gives(3, "split(0, 0, 1)");
        y.gives(0, "inspect(0, 3)");
        y.gives(0, "inspect(0, 0)");
        y.gives(200, "inspect(1, 0)");
        y.gives(96, "where(0)");
        y.gives(96 + 35, "where(1)");
    }

    static void promise19_split_8Boxes(Run y) {
        y.does("hive(20000); hive(0)");
        y.does(8, "box(0)");
        y.does("frame(84, 1); frame(95, 1)");
        y.gives(1, "split(0, 7, 1)");
        y.gives(2500, "inspect(1, 0)");
        y.gives(17500, "inspect(0, 0)");
        y.gives(96, "where(0)");
        y.gives(107, "where(1)");
        y.anew();
        y.does("hive(20000); hive(0)");
        y.does(8, "box(0)");
        y.refuses(2, "split(0, 9, 1)");
        y.gives(0, "split(0, 8, 1)");
        y.gives(8, "split(0, 0, 1)");
        y.gives(20000, "inspect(1, 0)");
    }

    static void promise19_split_beesRoundedDown(Run y) {
        y.does("hive(11); hive(0); hive(1); hive(0)");
        y.does(3, "box(0)");
        y.does(2, "box(2)");
        y.gives(2, "split(0, 1, 1)");
        y.gives(7, "inspect(1, 0)");
        y.gives(4, "inspect(0, 0)");
        y.gives(1, "split(2, 1, 3)");
        y.gives(0, "inspect(3, 0)");
        y.gives(1, "inspect(2, 0)");
    }

    static void promise19_split_dronesRoundedDown(Run y) {
        y.does("hive(0); hive(0); box(0); box(0); frame(0, 5)");
        for (int i = 0; i < 5; i++) {
            y.does("put(0, " + i + ", 400)");
        }
        y.does("day(24)");
        y.gives(5, "inspect(0, 1)");
        y.gives(1, "split(0, 1, 1)");
        y.gives(3, "inspect(0, 1)");
        y.gives(2, "inspect(1, 1)");
    }

    static void promise19_split_takesNothingElse(Run y) {
        y.does("hive(70); hive(0); box(0); thing(0); slot(0, 0); sample(0, 1, 2); due(0, 3, 1); day(1)");
        y.gives(1, "split(0, 0, 1)");
        y.gives(70, "inspect(0, 2)");
        y.gives(0, "inspect(1, 2)");
        y.gives(0, "ask(0, 13)");
        y.gives(2, "mites(0, 1)");
        y.gives(0, "mites(1, 1)");
        y.gives(0, "inspect(0, 4)");
        y.gives(1, "inspect(1, 4)");
        y.gives(3, "plan(0, 1)");
        y.gives(0, "chosen(0)");
    }

    static void promise19_split_ofNone(Run y) {
        hivesWithBoxes(y, 0, 0);
        y.refuses(4, "split(0, 0, 1)");
        y.does("box(0)");
        y.gives(1, "split(0, 0, 1)");
        y.does("hive(0)");
        y.refuses(4, "split(0, 0, 2)");
    }

    static void promise19_split_statusesInOrder(Run y) {
        hivesWithBoxes(y, 0, 1, 0);
        y.refuses(2, "split(-1, 9, 39)");
        y.refuses(1, "split(39, 9, -1)");
        y.refuses(1, "split(0, 9, 39)");
        y.refuses(6, "split(0, 9, 0)");
        y.refuses(6, "split(0, 0, 0)");
        y.refuses(6, "split(0, 9, 1)");
        y.refuses(6, "split(0, 0, 1)");
        y.refuses(2, "split(0, 1, 2)");
        y.refuses(2, "split(0, -1, 2)");
        y.refuses(4, "split(0, 0, 2)");
    }
}
