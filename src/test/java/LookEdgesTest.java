/** Promises 39 to 45, 47 and 48, and how far a run goes: a test for each sentence that names a boundary. */
public final class LookEdgesTest {
    private LookEdgesTest() {
    }

    public static void main(String[] args) throws IllegalAccessException {
        Edges.run(LookEdgesTest.class);
    }

    private static void letters(Run y, String due) {
        for (int i = 0; i < due.length(); i++) {
            y.gives(due.charAt(i), "letter(" + i + ")");
        }
        y.refuses(2, "letter(" + due.length() + ")");
    }

    // ---- 39 inspect

    static void promise39_inspect_hiveNumbers(Run y) {
        y.refuses(1, "inspect(0, 0)");
        y.does("hive(10); hive(20)");
        y.refusesHives("inspect(#, 0)", 2);
        y.gives(20, "inspect(1, 0)");
    }

    static void promise39_inspect_hiveNumber39(Run y) {
        y.does(39, "hive(0)");
        y.refuses(1, "inspect(39, 0)");
        y.does("hive(8)");
        y.gives(8, "inspect(39, 0)");
        y.refuses(2, "inspect(40, 0)");
    }

    static void promise39_inspect_what0To11(Run y) {
        y.does("hive(40); box(0); frame(0, 9); bring(0, 150); put(0, 2, 200); put(0, 3, 300); put(0, 4, 400); put(0, 5, 200)");
        y.refuses(6, "inspect(0, MIN)");
        y.refuses(6, "inspect(0, -1)");
        int[] due = {40, 0, 0, 1, 0, 11, 150, 2, 0, 0, 3, 2};
        for (int what = 0; what <= 11; what++) {
            y.gives(due[what], "inspect(0, " + what + ")");
        }
        y.refuses(6, "inspect(0, 12)");
        y.refuses(6, "inspect(0, MAX)");
    }

    static void promise39_inspect_hiveAheadOf6(Run y) {
        y.does("hive(0)");
        y.refuses(2, "inspect(40, 12)");
        y.refuses(2, "inspect(-1, -1)");
        y.refuses(1, "inspect(1, 12)");
        y.refuses(1, "inspect(39, -1)");
    }

    static void promise39_inspect_placesWithoutFrames(Run y) {
        y.does("hive(0)");
        y.gives(0, "inspect(0, 5)");
        y.does("box(0)");
        y.gives(12, "inspect(0, 5)");
        Yards.frames(y, 0, 11, 0);
        y.gives(1, "inspect(0, 5)");
        y.does("frame(11, 0)");
        y.gives(0, "inspect(0, 5)");
        y.does(7, "box(0)");
        y.gives(84, "inspect(0, 5)");
        y.does("out(3)");
        y.gives(85, "inspect(0, 5)");
    }

    static void promise39_inspect_nothingInNoFields(Run y) {
        y.does("hive(0); hive(0); hive(0); box(1); box(2); frame(192, 0)");
        for (int h = 0; h < 3; h++) {
            for (int what = 6; what <= 11; what++) {
                y.gives(0, "inspect(" + h + ", " + what + ")");
            }
        }
    }

    static void promise39_inspect_notOfTheBenchNorOfAnotherHive(Run y) {
        y.does("hive(0); hive(0); box(0); box(1); frame(0, 4); frame(96, 4); put(0, 0, 200); put(0, 1, 300); bring(0, 30); out(0)");
        for (int what = 6; what <= 11; what++) {
            y.gives(0, "inspect(0, " + what + ")");
            y.gives(what == 10 ? 4 : 0, "inspect(1, " + what + ")");
        }
    }

    static void promise39_inspect_notOfABoxThatLeft(Run y) {
        y.does("hive(0); hive(0); box(0); frame(0, 4); put(0, 0, 200); put(0, 1, 300); bring(0, 30); stack(0, 1)");
        for (int what = 5; what <= 11; what++) {
            y.gives(0, "inspect(0, " + what + ")");
        }
        int[] due = {11, 30, 1, 0, 0, 1, 1};
        for (int what = 5; what <= 11; what++) {
            y.gives(due[what - 5], "inspect(1, " + what + ")");
        }
    }

    static void promise39_inspect_ofTheLastFieldOfTheLastBox(Run y) {
        y.does("hive(0)");
        y.does(8, "box(0)");
        y.does("frame(95, 64); put(95, 63, 200)");
        y.gives(1, "inspect(0, 11)");
        y.gives(63, "inspect(0, 10)");
        y.does("bring(0, 10000)");
        y.gives(6300, "inspect(0, 6)");
    }

    // ---- 40 gap

    static void promise40_gap_hiveNumbers(Run y) {
        y.does("hive(0); hive(0)");
        y.refusesHives("gap(#)", 2);
        y.gives(-1, "gap(1)");
    }

    static void promise40_gap_noneWithoutBoxes(Run y) {
        y.does("hive(0)");
        y.gives(-1, "gap(0)");
        y.does("box(0)");
        y.gives(0, "gap(0)");
    }

    static void promise40_gap_theLeast(Run y) {
        y.does("hive(0); hive(0); box(1); box(1)");
        Yards.frames(y, 96, 23, 0);
        y.gives(96 + 23, "gap(1)");
        y.does("frame(119, 0)");
        y.gives(-1, "gap(1)");
        y.does("out(107)");
        y.gives(107, "gap(1)");
        y.does("out(108)");
        y.gives(107, "gap(1)");
        y.does("out(96)");
        y.gives(96, "gap(1)");
    }

    static void promise40_gap_notInABoxThatLeft(Run y) {
        y.does("hive(0); hive(0); box(0); stack(0, 1)");
        y.gives(-1, "gap(0)");
        y.gives(96, "gap(1)");
    }

    static void promise40_gap_noneIn8FullBoxes(Run y) {
        Yards.lastPlaces(y);
        y.gives(3744, "gap(39)");
        Yards.frames(y, 3744, 95, 0);
        y.gives(3839, "gap(39)");
        y.does("frame(3839, 0)");
        y.gives(-1, "gap(39)");
    }

    // ---- 41 find

    static void promise41_find_from0To3839(Run y) {
        Yards.lastPlaces(y);
        y.does("box(0); frame(0, 1); frame(3839, 1)");
        y.refuses(2, "find(0, MIN)");
        y.refuses(2, "find(0, -1)");
        y.gives(0, "find(0, 0)");
        y.gives(3839, "find(0, 1)");
        y.gives(3839, "find(0, 3839)");
        y.refuses(2, "find(0, 3840)");
        y.refuses(2, "find(0, MAX)");
        y.does("put(3839, 0, 200)");
        y.gives(-1, "find(0, 1)");
        y.gives(-1, "find(0, 3839)");
    }

    static void promise41_find_fromIsCheckedInAnEmptyYardToo(Run y) {
        y.refuses(2, "find(0, -1)");
        y.gives(-1, "find(0, 0)");
        y.gives(-1, "find(0, 3839)");
        y.refuses(2, "find(0, 3840)");
    }

    static void promise41_find_notBelowFrom(Run y) {
        y.does("hive(0); hive(0); box(0); box(1); frame(5, 2); frame(11, 2); frame(100, 2)");
        y.does("put(5, 1, 300); put(11, 0, 300); put(100, 1, 300)");
        y.gives(5, "find(300, 4)");
        y.gives(5, "find(300, 5)");
        y.gives(11, "find(300, 6)");
        y.gives(11, "find(300, 11)");
        y.gives(100, "find(300, 12)");
        y.gives(100, "find(300, 100)");
        y.gives(-1, "find(300, 101)");
    }

    static void promise41_find_eachValue(Run y) {
        y.does("hive(0); box(0); frame(3, 6); bring(0, 101); put(3, 2, 200); put(3, 3, 300); put(3, 4, 400)");
        for (int v : new int[] {0, 1, 100, 200, 300, 400}) {
            y.gives(3, "find(" + v + ", 0)");
        }
        for (String v : new String[] {"MIN", "-1", "2", "99", "101", "199", "201", "299", "301", "399", "401", "MAX"}) {
            y.gives(-1, "find(" + v + ", 0)");
        }
        y.does("day(20)");
        y.gives(3, "find(320, 0)");
        y.gives(3, "find(420, 0)");
        y.gives(-1, "find(300, 0)");
    }

    static void promise41_find_nothingInNoFields(Run y) {
        y.does("hive(0); box(0); frame(0, 0)");
        y.gives(-1, "find(0, 0)");
        y.does("frame(1, 1)");
        y.gives(1, "find(0, 0)");
    }

    static void promise41_find_theLastOf64Fields(Run y) {
        y.does("hive(0); box(0); frame(0, 64); put(0, 63, 200)");
        y.gives(0, "find(200, 0)");
    }

    static void promise41_find_notInABoxThatLeft(Run y) {
        y.does("hive(0); hive(0); hive(0); box(0); frame(5, 1); split(0, 0, 1)");
        y.gives(101, "find(0, 0)");
        y.does("join(2, 1)");
        y.gives(197, "find(0, 0)");
        y.gives(-1, "find(0, 198)");
    }

    static void promise41_find_notOnTheBench(Run y) {
        y.does("hive(0); box(0); frame(0, 1); out(0)");
        y.gives(-1, "find(0, 0)");
        y.does("back(0, 7)");
        y.gives(7, "find(0, 0)");
    }

    // ---- 42 export

    static void promise42_export_places(Run y) {
        Yards.small(y);
        y.does("frame(0, 2); frame(11, 1)");
        y.refusesPlaces("export(#)");
        y.refuses(1, "export(1)");
        y.gives(2, "export(0)");
        y.gives(1, "export(11)");
    }

    static void promise42_export_lastPlace(Run y) {
        Yards.lastPlaces(y);
        y.does("frame(3839, 2); put(3839, 1, 300)");
        y.gives(2, "export(3839)");
        letters(y, ".e");
        y.refuses(1, "export(3838)");
        y.refuses(2, "export(3840)");
    }

    static void promise42_export_0To64Letters(Run y) {
        y.does("hive(0); box(0); frame(0, 0); frame(1, 1); frame(2, 64); put(2, 63, 200)");
        y.gives(64, "export(2)");
        y.gives('p', "letter(63)");
        y.refuses(2, "letter(64)");
        y.gives(1, "export(1)");
        letters(y, ".");
        y.gives(0, "export(0)");
        letters(y, "");
    }

    static void promise42_export_honeyOf1AndOf100(Run y) {
        y.does("hive(0); box(0); frame(0, 4); bring(0, 101); put(0, 3, 200)");
        y.gives(4, "export(0)");
        letters(y, "hh.p");
    }

    static void promise42_export_youngByDays(Run y) {
        y.does("hive(0); box(0); frame(0, 2); put(0, 0, 300); put(0, 1, 400)");
        int[] days = {0, 2, 3, 8, 9, 20, 21, 23, 24};
        String[] due = {"eE", "eE", "bB", "bB", "sS", "sS", ".S", ".S", ".."};
        for (int i = 0; i < days.length; i++) {
            if (i > 0) {
                y.does("day(" + (days[i] - days[i - 1]) + ")");
            }
            y.gives(2, "export(0)");
            letters(y, due[i]);
        }
    }

    static void promise42_export_inPlaceOfTheOneBefore(Run y) {
        y.does("hive(0); box(0); frame(0, 3); frame(1, 2); put(0, 2, 200); put(1, 1, 300); export(0); export(1)");
        letters(y, ".e");
        y.refuses(1, "export(2)");
        y.refuses(2, "export(3840)");
        letters(y, ".e");
        y.does("export(0)");
        letters(y, "..p");
    }

    static void promise42_export_theRowStaysWhenTheFrameChanges(Run y) {
        y.does("hive(0); box(0); frame(0, 2); put(0, 0, 200); export(0); put(0, 0, 0)");
        letters(y, "p.");
        y.does("undo()");
        letters(y, "p.");
    }

    static void promise42_export_isNoChange(Run y) {
        y.does("hive(0); box(0); frame(0, 2); put(0, 0, 200)");
        y.isNoChange("export(0)");
    }

    // ---- 43 letter

    static void promise43_letter_noneYet(Run y) {
        y.refuses(1, "letter(0)");
        y.refuses(1, "letter(-1)");
        y.refuses(1, "letter(64)");
        Yards.small(y);
        y.refuses(1, "export(0)");
        y.refuses(1, "letter(0)");
        y.does("frame(0, 0); export(0)");
        y.refuses(2, "letter(0)");
        y.refuses(2, "letter(-1)");
    }

    static void promise43_letter_from0ToTheLast(Run y) {
        y.does("hive(0); box(0); frame(0, 3); put(0, 0, 200); put(0, 2, 300); export(0)");
        y.refuses(2, "letter(MIN)");
        y.refuses(2, "letter(-1)");
        y.gives(112, "letter(0)");
        y.gives(46, "letter(1)");
        y.gives(101, "letter(2)");
        y.refuses(2, "letter(3)");
        y.refuses(2, "letter(MAX)");
    }

    static void promise43_letter_63Of64(Run y) {
        y.does("hive(0); box(0); frame(0, 64); put(0, 63, 400); export(0)");
        y.gives(46, "letter(62)");
        y.gives(69, "letter(63)");
        y.refuses(2, "letter(64)");
    }

    // ---- 44 copy

    /** A row of five letters: p e E . . */
    private static void fiveLetters(Run y) {
        y.does("hive(0); box(0); frame(0, 5); put(0, 0, 200); put(0, 1, 300); put(0, 2, 400); export(0)");
    }

    static void promise44_copy_noneYet(Run y) {
        y.refuses(1, "copy(0, 0, 0)");
        y.refuses(1, "copy(-1, 65, -1)");
        y.does("hive(0); box(0); frame(0, 0)");
        y.refuses(1, "copy(0, 0, 0)");
        y.does("export(0)");
        y.gives(0, "copy(0, 0, 0)");
    }

    static void promise44_copy_ofNoLetters(Run y) {
        y.does("hive(0); box(0); frame(0, 0); export(0)");
        y.gives(0, "copy(0, 0, 0)");
        y.refuses(2, "copy(1, 0, 0)");
        y.refuses(2, "copy(0, 1, 0)");
        y.refuses(2, "copy(-1, 0, 0)");
        y.refuses(2, "copy(0, -1, 0)");
        y.refuses(2, "copy(0, 0, 1)");
        y.refuses(2, "copy(0, 0, -1)");
    }

    static void promise44_copy_count(Run y) {
        fiveLetters(y);
        y.refuses(2, "copy(0, 0, MIN)");
        y.refuses(2, "copy(0, 0, -1)");
        y.gives(0, "copy(0, 0, 0)");
        y.gives(5, "copy(0, 0, 5)");
        y.refuses(2, "copy(0, 0, 6)");
        y.refuses(2, "copy(0, 0, MAX)");
        letters(y, "peE..");
    }

    static void promise44_copy_from0ToHowManyThereAre(Run y) {
        fiveLetters(y);
        y.refuses(2, "copy(MIN, 0, 0)");
        y.refuses(2, "copy(-1, 0, 0)");
        y.gives(0, "copy(5, 0, 0)");
        y.refuses(2, "copy(6, 0, 0)");
        y.refuses(2, "copy(MAX, 0, 0)");
        y.refuses(2, "copy(5, 0, 1)");
        y.refuses(2, "copy(4, 0, 2)");
        y.refuses(2, "copy(-1, 0, 1)");
        y.refuses(2, "copy(1, 0, MAX)");
        y.gives(1, "copy(4, 0, 1)");
        letters(y, ".eE..");
    }

    static void promise44_copy_to0ToHowManyThereAre(Run y) {
        fiveLetters(y);
        y.refuses(2, "copy(0, MIN, 0)");
        y.refuses(2, "copy(0, -1, 0)");
        y.gives(0, "copy(0, 5, 0)");
        y.refuses(2, "copy(0, 6, 0)");
        y.refuses(2, "copy(0, MAX, 0)");
        y.refuses(2, "copy(0, 5, 1)");
        y.refuses(2, "copy(0, 4, 2)");
        y.refuses(2, "copy(0, -1, 1)");
        y.refuses(2, "copy(0, 1, MAX)");
        y.gives(1, "copy(0, 4, 1)");
        letters(y, "peE.p");
    }

    static void promise44_copy_ofAll64(Run y) {
        y.does("hive(0); box(0); frame(0, 64); put(0, 63, 200); export(0)");
        y.refuses(2, "copy(0, 1, 64)");
        y.refuses(2, "copy(1, 0, 64)");
        y.gives(64, "copy(0, 0, 64)");
        y.gives(63, "copy(1, 0, 63)");
        y.gives('p', "letter(62)");
        y.gives('p', "letter(63)");
        y.gives('.', "letter(61)");
    }

    static void promise44_copy_asTheyWereAheadOfIt(Run y) {
        fiveLetters(y);
        y.gives(4, "copy(0, 1, 4)");
        letters(y, "ppeE.");
        y.gives(4, "copy(1, 0, 4)");
        letters(y, "peE..");
        y.gives(3, "copy(0, 2, 3)");
        letters(y, "pepeE");
        y.gives(3, "copy(2, 0, 3)");
        letters(y, "peEeE");
    }

    static void promise44_copy_isNoChange(Run y) {
        fiveLetters(y);
        y.isNoChange("copy(0, 1, 4)");
        y.gives(4, "copy(0, 1, 4)");
        y.gives(1, "undo()");
        letters(y, "ppeE.");
        y.gives(0, "field(0, 2)");
    }

    // ---- 45 trace

    static void promise45_trace_bodies0To16(Run y) {
        y.does("hive(0); thing(0); swarm(0, 4); swarm(0, 5); day(1); ask(0, 7); ask(0, 7)");
        y.tells(0, "trace(MIN)");
        y.tells(0, "trace(-1)");
        y.tells(3, "trace(0)");
        y.tells(2, "trace(9)");
        y.tells(2, "trace(13)");
        y.tells(3, "trace(16)");
        y.tells(0, "trace(17)");
        y.tells(0, "trace(MAX)");
    }

    static void promise45_trace_leavesTheStatus(Run y) {
        y.refuses(6, "honey(5)");
        y.tells(0, "trace(0)");
        y.tells(0, "trace(17)");
        y.tells(0, "trace(-1)");
        y.tells(6, "status()");
    }

    static void promise45_trace_isLeftByUndo(Run y) {
        y.does("hive(10); thing(1); swarm(0, 5); day(30); undo()");
        y.tells(90, "trace(0)");
        y.tells(30, "trace(5)");
        y.tells(30, "trace(9)");
        y.tells(60, "trace(16)");
        y.does("settle(1, 0); undo()");
        y.tells(1, "trace(12)");
        y.tells(1, "trace(10)");
    }

    // ---- 47 digest

    private static int digestOf(int... numbers) {
        int d = 17;
        for (int x : numbers) {
            d = d * 31 + x;
        }
        return d;
    }

    static void promise47_digest_ofEachPart(Run y) {
        y.does("hive(5); hive(70); box(0); frame(0, 2); frame(1, 0); bring(0, 101); sample(0, 2, 3); sample(0, 4, 5)");
        y.does("thing(1); thing(3); put(0, 1, 400); harvest(1); day(2)");
        y.tells(digestOf(
            2, 5, 0, 10, 1, 6, 8, 0, 0, 39, 0, 0, 0,
            2, 2, 100, 402, 0,
            2, 1, 4, 3, 2,
            2,
            100, 0, 0, 1, 101,
            1,
            6, 0, 0, 0, 0, 2, 0, 0, 0, 0, 0, 0, 0, 0, 0, 0, 4), "digest()");
    }

    static void promise47_digest_ofDrones(Run y) {
        y.does("hive(0); box(0); frame(0, 1); put(0, 0, 400); day(24)");
        y.tells(digestOf(
            1, 0, 1, 1, 1, 0, 0,
            1, 1, 0,
            0,
            24,
            0, 0, 0, 0, 0,
            0,
            0, 0, 0, 0, 0, 0, 0, 0, 0, 0, 0, 0, 0, 0, 0, 0, 0), "digest()");
    }

    static void promise47_digest_afterUndo(Run y) {
        y.does("hive(0); thing(3); day(1); undo()");
        y.tells(digestOf(
            1, 0, 0, 0, 0, 0, 0,
            0,
            1, 3, 0,
            0,
            0, 0, 0, 0, 0,
            0,
            1, 0, 0, 0, 0, 0, 0, 0, 0, 0, 0, 0, 0, 0, 0, 0, 1), "digest()");
    }

    static void promise47_digest_leavesTheStatus(Run y) {
        y.refuses(6, "honey(5)");
        int d = y.answer("digest()");
        y.tells(6, "status()");
        y.tells(d, "digest()");
    }

    static void promise47_digest_doesNotTellTheseParts(Run y) {
        y.does("hive(0); hive(0); box(0); frame(0, 3); thing(2); thing(3)");
        int d = y.answer("digest()");
        y.does("slot(0, 0); lay(0, 9); line(0, -1, 1); due(0, 1, 1); out(0)");
        y.tells(d, "digest()");
    }

    // ---- 48 status

    static void promise48_status_each0To8(Run y) {
        y.tells(0, "status()");
        y.does(9, "hive(0)");
        for (int h = 0; h < 9; h++) {
            y.does("due(" + h + ", 1, 1)");
        }
        y.does("thing(0)");
        y.refuses(1, "box(9)");
        y.refuses(2, "box(40)");
        y.refuses(3, "lay(0, 1)");
        y.refuses(4, "share(0, 0)");
        y.refuses(5, "share(0, -1)");
        y.refuses(6, "share(0, 101)");
        y.refuses(7, "line(0, 0, -1)");
        y.refuses(8, "plan(0, 1)");
        y.gives(0, "inspect(0, 0)");
    }

    static void promise48_status_isLeftByFourCalls(Run y) {
        y.refuses(2, "box(-1)");
        y.tells(2, "status()");
        y.tells(2, "status()");
        y.tells(0, "moved()");
        y.tells(0, "trace(3)");
        y.answer("digest()");
        y.tells(2, "status()");
        y.gives(0, "undo()");
        y.tells(0, "status()");
    }

    static void promise48_status_is0WithSomeAnswersOfMinus1(Run y) {
        y.does("hive(0); thing(2)");
        for (String call : new String[] {"gap(0)", "find(0, 0)", "slot(0, -1)", "ask(0, 8)", "ask(0, 9)", "ask(0, 12)", "ask(0, 13)",
            "ask(0, 14)"}) {
            y.refuses(6, "honey(5)");
            y.gives(-1, call);
        }
    }

    static void promise48_status_isSetAnewByEveryOtherCall(Run y) {
        y.does("hive(100); hive(0); box(0); box(0); frame(0, 3); frame(12, 3); thing(0); thing(1); thing(3); thing(2)");
        y.does("sample(0, 1, 1); sample(1, 1, 1); share(0, 1); export(0); due(0, 1, 1); plan(1, 1); harvest(0)");
        String[] calls = {"hive(0)", "box(1)", "frame(1, 1)", "out(1)", "back(0, 1)", "at(0)", "where(0)", "field(0, 0)",
            "put(0, 0, 200)", "bring(0, 5)", "harvest(0)", "ledger(0, 0)", "honey(0)", "move(0, 12, 1)", "stack(0, 1)",
            "split(0, 0, 2)", "join(0, 2)", "thing(0)", "line(1, 0, 2)", "kin(0, 1)", "ask(0, 0)", "slot(0, 0)", "lay(3, 1)",
            "mate(1, 2)", "day(1)", "swarm(0, 4)", "settle(5, 0)", "share(0, 2)", "shared(0)", "sample(0, 1, 1)", "mites(0, 0)",
            "compare(0, 1)", "due(0, 2, 2)", "plan(1, 1)", "chosen(0)", "treat(0)", "inspect(0, 0)", "gap(0)", "find(0, 0)",
            "export(0)", "letter(0)", "copy(0, 0, 1)", "undo()"};
        for (String call : calls) {
            y.refuses(6, "honey(5)");
            y.does(call);
            y.tells(0, "status()");
        }
    }

    // ---- how far a run goes

    static void terms_512CallsOfDays(Run y) {
        y.does("thing(1); thing(3)");
        y.does(508, "day(30)");
        y.hold("the 511th call's DAYS of a Virgin", y.answer("ask(0, 1)"), 508 * 60);
        y.hold("the 512th call's DAYS in all", y.answer("day(30)"), 509 * 30);
    }

    static void terms_512CallsOfHoney(Run y) {
        y.does("hive(0); box(0); frame(0, 64)");
        y.does(507, "bring(0, 10000)");
        y.hold("the 511th call's SPILT", y.answer("honey(3)"), 507 * 10000 - 6400);
        y.hold("the 512th call's BROUGHT", y.answer("honey(4)"), 507 * 10000);
    }

    static void terms_512CallsOfMites(Run y) {
        y.does("hive(0)");
        for (int i = 1; i <= 508; i++) {
            y.hold("WASHINGS", y.answer("sample(0, 10000, 10000)"), i);
        }
        y.hold("the 510th call's MITES", y.answer("mites(0, 0)"), 5080000);
        y.hold("the 511th call's share", y.answer("mites(0, 2)"), 1);
        y.hold("the 512th call's comparing", y.answer("compare(0, 0)"), 1);
    }

    static void terms_512CallsOfHarvestsTakenBack(Run y) {
        y.does("hive(0); box(0); frame(0, 1)");
        for (int i = 0; i < 253; i++) {
            y.does("harvest(0); undo()");
        }
        y.does("harvest(0)");
        y.hold("the 511th call's number", y.answer("ledger(0, 0)"), 253);
        y.hold("the 512th call's undo()", y.answer("undo()"), 1);
    }

    static void terms_512CallsWithBodiesOf200Things(Run y) {
        y.does(200, "thing(1)");
        y.does(309, "day(30)");
        y.hold("the 510th call's runs of BODY 0", y.answer("trace(0)"), 309 * 30 * 200 * 2);
        y.hold("the 511th call's runs of BODY 5", y.answer("trace(5)"), 309 * 30 * 200);
        y.hold("the 512th call's runs of BODY 16", y.answer("trace(16)"), 309 * 30 * 200);
    }

    /** A yard as full as 512 calls can make it stands to the last of them. */
    static void terms_512CallsOfAFullYard(Run y) {
        y.does(40, "hive(20000)");
        for (int h = 0; h < 3; h++) {
            y.does(8, "box(" + h + ")");
        }
        Yards.frames(y, 0, 200, 64);
        y.does(200, "thing(2)");
        y.does("bring(0, 10000); bring(1, 10000); slot(0, 199); lay(199, 200)");
        y.does(25, "day(30)");
        y.does("undo(); join(2, 39)");
        y.does(13, "day(30)");
        y.hold("the 510th call", y.answer("where(199)"), 199);
        y.hold("the 511th call", y.answer("inspect(2, 3)"), 8);
        y.hold("the 512th call", y.answer("day(30)"), (24 + 13 + 1) * 30);
    }
}
