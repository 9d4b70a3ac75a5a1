/** Promises 11 to 14: a test for each sentence that names a boundary. */
public final class HoneyEdgesTest {
    private HoneyEdgesTest() {
    }

    public static void main(String[] args) throws IllegalAccessException {
        Edges.run(HoneyEdgesTest.class);
    }

    private static void sumHolds(Run y) {
        int sum = 0;
        for (int what = 0; what <= 3; what++) {
            sum += y.answer("honey(" + what + ")");
        }
        y.gives(sum, "honey(4)");
    }

    // ---- 11 bring

    static void promise11_bring_hiveNumbers(Run y) {
        y.refuses(1, "bring(0, 1)");
        y.does("hive(0); hive(0)");
        y.refusesHives("bring(#, 1)", 2);
        y.gives(0, "bring(1, 1)");
    }

    static void promise11_bring_hiveNumber39(Run y) {
        y.does(40, "hive(0)");
        y.does("box(39); frame(3744, 1)");
        y.gives(7, "bring(39, 7)");
        y.refusesHives("bring(#, 1)", 40);
    }

    static void promise11_bring_tenths0To10000(Run y) {
        y.does("hive(0); box(0); frame(0, 64); frame(1, 64)");
        y.refuses(6, "bring(0, MIN)");
        y.refuses(6, "bring(0, -1)");
        y.gives(0, "bring(0, 0)");
        y.gives(1, "bring(0, 1)");
        y.gives(10000, "bring(0, 10000)");
        y.refuses(6, "bring(0, 10001)");
        y.refuses(6, "bring(0, MAX)");
        y.gives(10001, "honey(4)");
        y.gives(10001, "honey(0)");
    }

    static void promise11_bring_to100InEach(Run y) {
        y.does("hive(0); box(0); frame(0, 2)");
        y.gives(99, "bring(0, 99)");
        y.gives(99, "field(0, 0)");
        y.gives(2, "bring(0, 2)");
        y.gives(100, "field(0, 0)");
        y.gives(1, "field(0, 1)");
    }

    static void promise11_bring_justTheRoomAndOneMore(Run y) {
        y.does("hive(0); box(0); frame(0, 2)");
        y.gives(199, "bring(0, 199)");
        y.gives(0, "honey(3)");
        y.gives(1, "bring(0, 1)");
        y.gives(0, "honey(3)");
        y.gives(0, "bring(0, 1)");
        y.gives(1, "honey(3)");
        y.anew();
        y.does("hive(0); box(0); frame(0, 2)");
        y.gives(200, "bring(0, 201)");
        y.gives(1, "honey(3)");
        y.gives(201, "honey(4)");
        y.gives(200, "honey(0)");
    }

    static void promise11_bring_noRoomWithoutBox(Run y) {
        y.does("hive(0)");
        y.gives(0, "bring(0, 5)");
        y.gives(5, "honey(3)");
        y.gives(5, "honey(4)");
        y.gives(0, "honey(0)");
    }

    static void promise11_bring_noRoomWithoutFrame(Run y) {
        y.does("hive(0); box(0)");
        y.gives(0, "bring(0, 5)");
        y.gives(5, "honey(3)");
    }

    static void promise11_bring_noRoomInAFrameWithoutFields(Run y) {
        y.does("hive(0); box(0); frame(0, 0)");
        y.gives(0, "bring(0, 5)");
        y.gives(5, "honey(3)");
    }

    static void promise11_bring_noRoomOnTheBench(Run y) {
        y.does("hive(0); box(0); frame(0, 4); out(0)");
        y.gives(0, "bring(0, 5)");
        y.gives(5, "honey(3)");
    }

    static void promise11_bring_noRoomInPollenAndYoung(Run y) {
        y.does("hive(0); box(0); frame(0, 4); put(0, 0, 200); put(0, 1, 300); put(0, 2, 400)");
        y.gives(100, "bring(0, 500)");
        y.gives(200, "field(0, 0)");
        y.gives(300, "field(0, 1)");
        y.gives(400, "field(0, 2)");
        y.gives(100, "field(0, 3)");
        y.gives(400, "honey(3)");
    }

    static void promise11_bring_noRoomInAnotherHive(Run y) {
        y.does("hive(0); hive(0); hive(0); box(0); box(2); frame(0, 1); frame(192, 1)");
        y.gives(0, "bring(1, 5)");
        y.gives(0, "field(0, 0)");
        y.gives(0, "field(192, 0)");
    }

    static void promise11_bring_noRoomInABoxThatLeft(Run y) {
        y.does("hive(0); hive(0); box(0); box(0); frame(12, 3); stack(0, 1)");
        y.gives(0, "bring(0, 5)");
        y.gives(5, "bring(1, 5)");
        y.gives(5, "field(96, 0)");
    }

    static void promise11_bring_boxesPlacesFieldsFrom0On(Run y) {
        y.does("hive(0); box(0); box(0); frame(12, 1); frame(11, 2); frame(0, 1)");
        y.gives(150, "bring(0, 150)");
        y.gives(100, "field(0, 0)");
        y.gives(50, "field(11, 0)");
        y.gives(0, "field(11, 1)");
        y.gives(160, "bring(0, 160)");
        y.gives(100, "field(11, 0)");
        y.gives(100, "field(11, 1)");
        y.gives(10, "field(12, 0)");
    }

    static void promise11_bring_anEarlierFieldThatIsNotFullIsFilledFirst(Run y) {
        y.does("hive(0); box(0); frame(0, 3); bring(0, 250); put(0, 0, 0)");
        y.gives(120, "bring(0, 120)");
        y.gives(100, "field(0, 0)");
        y.gives(100, "field(0, 1)");
        y.gives(70, "field(0, 2)");
    }

    static void promise11_bring_hiveAheadOf6(Run y) {
        y.does("hive(0)");
        y.refuses(2, "bring(-1, -1)");
        y.refuses(2, "bring(40, 10001)");
        y.refuses(1, "bring(1, -1)");
        y.refuses(1, "bring(39, 10001)");
        y.refuses(6, "bring(0, -1)");
    }

    // ---- 12 harvest

    static void promise12_harvest_places(Run y) {
        Yards.small(y);
        y.refusesPlaces("harvest(#)");
        y.refuses(1, "harvest(0)");
        y.does("frame(0, 1); frame(11, 1); bring(0, 150)");
        y.gives(100, "harvest(0)");
        y.gives(50, "harvest(11)");
    }

    static void promise12_harvest_lastPlace(Run y) {
        Yards.lastPlaces(y);
        y.does("frame(3839, 1); bring(39, 60)");
        y.refuses(2, "harvest(3840)");
        y.gives(60, "harvest(3839)");
        y.gives(3839, "ledger(0, 1)");
    }

    static void promise12_harvest_ofNoHoneyIsAnEntryToo(Run y) {
        y.does("hive(0); box(0); frame(0, 3); frame(1, 0)");
        y.gives(0, "harvest(0)");
        y.gives(0, "harvest(1)");
        y.gives(0, "ledger(0, 2)");
        y.gives(1, "ledger(1, 0)");
        y.gives(1, "ledger(1, 1)");
        y.gives(0, "honey(1)");
        y.refuses(1, "ledger(2, 0)");
    }

    static void promise12_harvest_of1AndOf100AndOfAll64(Run y) {
        y.does("hive(0); box(0); frame(0, 2); frame(1, 64); bring(0, 1)");
        y.gives(1, "harvest(0)");
        y.does("bring(0, 101)");
        y.gives(101, "harvest(0)");
        y.does("bring(0, 6600)");
        y.gives(6400, "harvest(1)");
        y.gives(6502, "honey(1)");
        y.gives(64, "inspect(0, 10)");
    }

    static void promise12_harvest_leavesPollenAndYoung(Run y) {
        y.does("hive(0); box(0); frame(0, 4); put(0, 0, 200); put(0, 1, 300); put(0, 3, 400); bring(0, 30)");
        y.gives(30, "harvest(0)");
        y.gives(200, "field(0, 0)");
        y.gives(300, "field(0, 1)");
        y.gives(0, "field(0, 2)");
        y.gives(400, "field(0, 3)");
    }

    static void promise12_harvest_200Entries(Run y) {
        y.does("hive(0); box(0); frame(0, 1)");
        y.does(199, "harvest(0)");
        y.does("bring(0, 7)");
        y.refuses(1, "ledger(199, 0)");
        y.gives(7, "harvest(0)");
        y.gives(199, "ledger(199, 0)");
        y.does("bring(0, 8)");
        y.refuses(6, "harvest(0)");
        y.gives(8, "field(0, 0)");
        y.gives(7, "honey(1)");
    }

    static void promise12_harvest_nextNumberIsAlwaysOneMore(Run y) {
        y.does("hive(0); box(0); frame(0, 1); harvest(0); harvest(0)");
        y.gives(1, "ledger(1, 0)");
        y.does("undo()");
        y.refuses(1, "ledger(1, 0)");
        y.does("harvest(0)");
        y.gives(2, "ledger(1, 0)");
        y.refuses(1, "harvest(1)");
        y.does("harvest(0)");
        y.gives(3, "ledger(2, 0)");
        y.gives(0, "ledger(0, 0)");
    }

    static void promise12_harvest_nextNumberAbove199AfterUndo(Run y) {
        y.does("hive(0); box(0); frame(0, 1)");
        y.does(200, "harvest(0)");
        y.does("undo(); harvest(0)");
        y.gives(200, "ledger(199, 0)");
        y.refuses(6, "harvest(0)");
        y.does("undo(); harvest(0)");
        y.gives(201, "ledger(199, 0)");
    }

    static void promise12_harvest_frameAheadOf200(Run y) {
        Yards.small(y);
        y.does("frame(0, 1)");
        y.does(200, "harvest(0)");
        y.refuses(2, "harvest(-1)");
        y.refuses(2, "harvest(3840)");
        y.refuses(1, "harvest(1)");
        y.refuses(1, "harvest(12)");
        y.refuses(1, "harvest(192)");
        y.refuses(6, "harvest(0)");
    }

    // ---- 13 ledger

    static void promise13_ledger_entries(Run y) {
        y.refuses(2, "ledger(MIN, 0)");
        y.refuses(2, "ledger(-1, 0)");
        y.refuses(1, "ledger(0, 0)");
        y.does("hive(0); box(0); frame(5, 1); bring(0, 42); harvest(5); harvest(5)");
        y.gives(0, "ledger(0, 0)");
        y.gives(1, "ledger(1, 0)");
        y.refuses(1, "ledger(2, 0)");
        y.refuses(1, "ledger(199, 0)");
        y.refuses(2, "ledger(200, 0)");
        y.refuses(2, "ledger(MAX, 0)");
    }

    static void promise13_ledger_entry199(Run y) {
        y.does("hive(0); box(0); frame(5, 1)");
        y.does(200, "harvest(5)");
        y.gives(198, "ledger(198, 0)");
        y.gives(199, "ledger(199, 0)");
        y.gives(5, "ledger(199, 1)");
        y.refuses(2, "ledger(200, 0)");
    }

    static void promise13_ledger_what0To2(Run y) {
        y.does("hive(0); box(0); frame(5, 1); bring(0, 42); harvest(5)");
        y.refuses(2, "ledger(0, MIN)");
        y.refuses(2, "ledger(0, -1)");
        y.gives(0, "ledger(0, 0)");
        y.gives(5, "ledger(0, 1)");
        y.gives(42, "ledger(0, 2)");
        y.refuses(2, "ledger(0, 3)");
        y.refuses(2, "ledger(0, MAX)");
    }

    static void promise13_ledger_noEntryAheadOfWhat(Run y) {
        y.refuses(1, "ledger(0, 3)");
        y.refuses(1, "ledger(199, -1)");
        y.refuses(2, "ledger(200, 3)");
        y.does("hive(0); box(0); frame(5, 1); harvest(5)");
        y.refuses(1, "ledger(1, 3)");
        y.refuses(2, "ledger(0, 3)");
    }

    static void promise13_ledger_thePlaceStaysAsItWas(Run y) {
        y.does("hive(0); hive(0); box(0); frame(5, 1); harvest(5); stack(0, 1)");
        y.gives(5, "ledger(0, 1)");
    }

    // ---- 14 honey

    static void promise14_honey_what0To4(Run y) {
        y.does("hive(0); box(0); frame(0, 1); bring(0, 30); harvest(0); bring(0, 120); put(0, 0, 0); bring(0, 7)");
        y.refuses(6, "honey(MIN)");
        y.refuses(6, "honey(-1)");
        y.gives(7, "honey(0)");
        y.gives(30, "honey(1)");
        y.gives(0, "honey(2)");
        y.gives(120, "honey(3)");
        y.gives(157, "honey(4)");
        y.refuses(6, "honey(5)");
        y.refuses(6, "honey(MAX)");
    }

    static void promise14_honey_ofTheBenchToo(Run y) {
        y.does("hive(0); box(0); frame(0, 1); frame(1, 1); bring(0, 150)");
        y.gives(150, "honey(0)");
        y.does("out(0)");
        y.gives(150, "honey(0)");
        y.gives(50, "inspect(0, 6)");
        y.does("out(1)");
        y.gives(150, "honey(0)");
        y.gives(0, "inspect(0, 6)");
    }

    static void promise14_honey_ofNoFieldsIs0(Run y) {
        y.does("hive(0); box(0); frame(0, 0); frame(1, 3); put(1, 0, 200); put(1, 1, 300); put(1, 2, 400)");
        y.gives(0, "honey(0)");
    }

    static void promise14_honey_allThatWasBroughtIsSomewhere(Run y) {
        y.does("hive(1000); hive(50); box(0); box(0); box(1); frame(0, 2); frame(12, 3); frame(96, 4); frame(97, 2)");
        String[] calls = {"bring(0, 777)", "bring(1, 333)", "day(1)", "put(0, 1, 300)", "harvest(12)", "bring(0, 90)",
            "move(96, 12, 1)", "bring(1, 10)", "move(97, 96, 1)", "out(0)", "undo()", "out(0)", "stack(0, 1)", "join(0, 1)",
            "day(30)", "bring(0, 10000)", "day(7)", "undo()", "split(0, 1, 1)"};
        for (String call : calls) {
            y.answer(call);
            sumHolds(y);
        }
    }
}
