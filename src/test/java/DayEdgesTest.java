/** Promise 27, and what ask() tells of BODIES (23), with the terms' sections 2 and 3: a test for each boundary. */
public final class DayEdgesTest {
    private static final int[] PLACES_FROM_THE_MIDDLE = {6, 5, 7, 4, 8, 3, 9, 2, 10, 1, 11, 0};

    private DayEdgesTest() {
    }

    public static void main(String[] args) throws IllegalAccessException {
        Edges.run(DayEdgesTest.class);
    }

    /** A HIVE without BEES, one BOX, and in its SLOT a Mated that LAYS so many a day, 5 to 205. */
    private static void laying(Run y, int eggs) {
        y.does("hive(0); box(0); thing(2); slot(0, 0); lay(0, " + (eggs - 5) + ")");
    }

    private static void fields(Run y, int p, int... due) {
        for (int i = 0; i < due.length; i++) {
            y.gives(due[i], "field(" + p + ", " + i + ")");
        }
    }

    /** A HIVE with so many BEES and so much HONEY, a day on. */
    private static void dayOf(Run y, int bees, int honey) {
        y.anew();
        y.does("hive(" + bees + "); box(0); frame(0, 64); bring(0, " + honey + "); day(1)");
    }

    private static void after(Run y, int bees, int hunger, int eaten) {
        y.gives(bees, "inspect(0, 0)");
        y.gives(hunger, "inspect(0, 2)");
        y.gives(eaten, "honey(2)");
    }

    // ---- 23 ask: the ACTS and their BODIES

    static void promise23_ask_tells(Run y) {
        Yards.oneOfEachKind(y, 0);
        int[] first = {1000, 1000, 1000, -1, 0, 5000};
        int[] later = {1001, 1002, 1001, -2, 1, 5001};
        for (int t = 0; t < 6; t++) {
            y.gives(first[t], "ask(" + t + ", 2)");
        }
        y.does("day(1)");
        for (int t = 0; t < 6; t++) {
            y.gives(later[t], "ask(" + t + ", 2)");
        }
    }

    static void promise23_ask_tellsRuns(Run y) {
        Yards.oneOfEachKind(y, 0);
        y.runs("ask(0, 2)", 3, 1);
        y.runs("ask(1, 2)", 3, 1);
        y.runs("ask(2, 2)", 3, 1);
        y.runs("ask(3, 2)", 8, 1);
        y.runs("ask(4, 2)", 1);
        y.runs("ask(5, 2)", 11, 1);
    }

    static void promise23_ask_carriesRuns(Run y) {
        Yards.oneOfEachKind(y, 0);
        for (int t = 0; t <= 3; t++) {
            y.runs("ask(" + t + ", 3)", 2);
            y.gives(0, "ask(" + t + ", 3)");
        }
        y.runs("ask(4, 3)", 10);
        y.runs("ask(5, 3)", 12, 10);
    }

    static void promise23_ask_laysRuns(Run y) {
        Yards.oneOfEachKind(y, 0);
        y.runs("ask(0, 4)", 4);
        y.runs("ask(1, 4)", 6);
        y.runs("ask(2, 4)", 7, 4);
        y.does("day(16)");
        y.runs("ask(1, 4)", 6, 4);
    }

    static void promise23_ask_truthsRun(Run y) {
        Yards.oneOfEachKind(y, 0);
        y.runs("ask(0, 5)", 14, 3, 1);
        y.runs("ask(3, 5)", 14, 8, 1);
        y.runs("ask(4, 5)", 14, 1);
        y.runs("ask(5, 5)", 14, 11, 1);
        y.runs("ask(0, 6)", 15, 2);
        y.runs("ask(4, 6)", 15, 10);
        y.runs("ask(5, 6)", 15, 12, 10);
        y.runs("ask(0, 7)", 13, 4);
        y.runs("ask(1, 7)", 13, 6);
        y.runs("ask(2, 7)", 13, 7, 4);
    }

    static void promise23_ask_otherNumbersAndRefusedOnesRunNothing(Run y) {
        Yards.oneOfEachKind(y, 0);
        for (int what : new int[] {0, 1, 8, 9, 10, 11, 12, 13, 14, 15, -1}) {
            y.runs("ask(2, " + what + ")");
        }
        y.runs("ask(3, 4)");
        y.runs("ask(3, 7)");
        y.runs("ask(6, 2)");
        y.runs("ask(200, 2)");
    }

    static void promise23_ask_oldAbove1100OfAQueen(Run y) {
        y.does("thing(0); thing(2); day(30); day(30); day(30); day(9)");
        y.gives(1099, "ask(0, 2)");
        y.gives(0, "ask(0, 5)");
        y.does("day(1)");
        y.gives(1100, "ask(0, 2)");
        y.gives(0, "ask(0, 5)");
        y.gives(0, "ask(1, 5)");
        y.does("day(1)");
        y.gives(1101, "ask(0, 2)");
        y.gives(1, "ask(0, 5)");
        y.gives(1, "ask(1, 5)");
    }

    static void promise23_ask_oldAbove1100OfAVirgin(Run y) {
        y.does("thing(1); day(30); day(20)");
        y.gives(1100, "ask(0, 2)");
        y.gives(0, "ask(0, 5)");
        y.does("day(1)");
        y.gives(1102, "ask(0, 2)");
        y.gives(1, "ask(0, 5)");
    }

    static void promise23_ask_oldAbove1100OfASwarm(Run y) {
        y.does("hive(0); swarm(0, 4)");
        y.does(36, "day(30)");
        y.does("day(20)");
        y.gives(1100, "ask(0, 2)");
        y.gives(0, "ask(0, 5)");
        y.does("day(1)");
        y.gives(1101, "ask(0, 2)");
        y.gives(1, "ask(0, 5)");
    }

    static void promise23_ask_oldAtOnceOfANucleusNeverOfADrone(Run y) {
        y.does("hive(0); swarm(0, 5); thing(3)");
        y.gives(1, "ask(0, 5)");
        y.gives(0, "ask(1, 5)");
        y.does(40, "day(30)");
        y.gives(-1201, "ask(1, 2)");
        y.gives(0, "ask(1, 5)");
    }

    static void promise23_ask_loadedAbove0(Run y) {
        y.does("hive(1); hive(2); hive(2); hive(3); swarm(0, 4); swarm(1, 4); swarm(2, 5); swarm(3, 5)");
        y.gives(0, "ask(0, 6)");
        y.gives(1, "ask(1, 6)");
        y.gives(0, "ask(2, 6)");
        y.gives(1, "ask(3, 6)");
        y.does("settle(1, 0)");
        y.gives(0, "ask(1, 6)");
        for (int kind = 0; kind <= 3; kind++) {
            y.does("thing(" + kind + ")");
            y.gives(0, "ask(" + (4 + kind) + ", 6)");
        }
    }

    static void promise23_ask_carriesOfANucleus1000AtMost(Run y) {
        y.does("hive(2997); hive(3000); hive(3003); hive(20000); swarm(0, 5); swarm(1, 5); swarm(2, 5); swarm(3, 5)");
        y.gives(999, "ask(0, 3)");
        y.gives(1000, "ask(1, 3)");
        y.gives(1000, "ask(2, 3)");
        y.gives(1000, "ask(3, 3)");
        y.anew();
        y.does("hive(20000); swarm(0, 4)");
        y.gives(10000, "ask(0, 3)");
    }

    static void promise23_ask_laysOfAVirginUpTo30Days(Run y) {
        y.does("thing(1)");
        y.gives(0, "ask(0, 4)");
        y.does("day(15)");
        y.gives(30, "ask(0, 1)");
        y.gives(0, "ask(0, 4)");
        y.gives(0, "ask(0, 7)");
        y.does("day(1)");
        y.gives(32, "ask(0, 1)");
        y.gives(-5, "ask(0, 4)");
        y.gives(1, "ask(0, 7)");
    }

    static void promise23_ask_laysOfAMatedLessItsDaysBy100(Run y) {
        y.does("thing(2); thing(2); lay(1, 200)");
        y.gives(5, "ask(0, 4)");
        y.gives(205, "ask(1, 4)");
        y.does("day(30); day(30); day(30); day(9)");
        y.gives(5, "ask(0, 4)");
        y.gives(205, "ask(1, 4)");
        y.does("day(1)");
        y.gives(4, "ask(0, 4)");
        y.gives(204, "ask(1, 4)");
    }

    static void promise23_ask_laysOfAMated0AtLeast(Run y) {
        y.does("thing(2); lay(0, 1)");
        y.does(19, "day(30)");
        y.does("day(29)");
        y.gives(599, "ask(0, 1)");
        y.gives(1, "ask(0, 4)");
        y.gives(1, "ask(0, 7)");
        y.does("day(1)");
        y.gives(0, "ask(0, 4)");
        y.gives(0, "ask(0, 7)");
        y.does("day(30); day(30); day(30); day(10)");
        y.gives(700, "ask(0, 1)");
        y.gives(0, "ask(0, 4)");
        y.does("lay(0, 3)");
        y.gives(1, "ask(0, 4)");
    }

    static void promise23_ask_laysOfAQueenAlways5(Run y) {
        y.does("thing(0)");
        y.does(40, "day(30)");
        y.gives(5, "ask(0, 4)");
        y.gives(1, "ask(0, 7)");
    }

    // ---- 27 day

    static void promise27_day_1To30(Run y) {
        y.refuses(6, "day(MIN)");
        y.refuses(6, "day(-1)");
        y.refuses(6, "day(0)");
        y.gives(1, "day(1)");
        y.gives(31, "day(30)");
        y.refuses(6, "day(31)");
        y.refuses(6, "day(MAX)");
        y.gives(32, "day(1)");
    }

    static void promise27_day_refusedOnesRunNothing(Run y) {
        Yards.oneOfEachKind(y, 0);
        y.runs("day(0)");
        y.runs("day(31)");
        y.refuses(6, "day(0)");
        y.refuses(6, "day(31)");
    }

    static void promise27_day_thoseTakenBackAreNotCounted(Run y) {
        y.gives(5, "day(5)");
        y.gives(1, "undo()");
        y.gives(2, "day(2)");
    }

    static void promise27_day_oneAfterTheOther(Run y) {
        y.does("hive(700); hive(90); box(0); box(1); frame(6, 10); frame(97, 64); bring(0, 300); put(6, 9, 400)");
        y.does("thing(0); thing(1); slot(0, 0); slot(1, 1); swarm(0, 5)");
        StringBuilder single = new StringBuilder("day(1)");
        for (int i = 1; i < 30; i++) {
            single.append("; day(1)");
        }
        y.areAlike("day(30)", single.toString());
        y.areAlike("day(2)", "day(1); day(1)");
    }

    static void promise27_day_passing(Run y) {
        Yards.oneOfEachKind(y, 0);
        y.runs("day(1)", 16, 16, 16, 16, 16, 16, 0, 0, 0, 0, 0, 0, 0, 5, 9, 9);
        y.does("day(1)");
        int[] days = {1, 2, 1, 1, 1, 1};
        for (int t = 0; t < 6; t++) {
            y.gives(days[t], "ask(" + t + ", 1)");
        }
    }

    static void promise27_day_runsLaysOfQueensInSlots(Run y) {
        y.does("hive(0); hive(0); hive(0); hive(0); thing(0); thing(1); thing(2); thing(3)");
        for (int t = 0; t < 4; t++) {
            y.does("slot(" + t + ", " + t + ")");
        }
        y.runs("day(1)", 16, 16, 16, 16, 0, 0, 0, 0, 0, 5, 4, 6, 7, 4);
    }

    static void promise27_day_loadLessATenthRoundedDown(Run y) {
        int[] bees = {0, 2, 18, 20, 38, 40, 20000};
        int[] left = {0, 1, 9, 9, 18, 18, 9000};
        for (int h = 0; h < bees.length; h++) {
            y.does("hive(" + bees[h] + "); swarm(" + h + ", 4)");
        }
        y.does("day(1)");
        for (int t = 0; t < bees.length; t++) {
            y.gives(left[t], "ask(" + t + ", 3)");
        }
    }

    /** The LOAD itself gets less, not the 1000 that a Nucleus CARRIES of it. */
    static void promise27_day_loadOfANucleusAbove1000(Run y) {
        y.does("hive(3339); swarm(0, 5); day(1)");
        y.gives(1000, "ask(0, 3)");
        y.does("day(1)");
        y.gives(902, "ask(0, 3)");
    }

    static void promise27_day_thingsPassAheadOfHives(Run y) {
        y.does("hive(0); box(0); frame(0, 20); thing(1); slot(0, 0); day(14)");
        y.gives(28, "ask(0, 1)");
        y.does("day(1)");
        y.gives(30, "ask(0, 1)");
        y.gives(20, "inspect(0, 10)");
        y.does("day(1)");
        y.gives(15, "inspect(0, 10)");
        y.gives(5, "inspect(0, 7)");
    }

    // ---- GROWING

    static void promise27_day_aWorkerLeavesAt21Days(Run y) {
        y.does("hive(0); box(0); frame(0, 1); put(0, 0, 300); day(20)");
        fields(y, 0, 320);
        y.gives(0, "inspect(0, 0)");
        y.does("day(1)");
        fields(y, 0, 0);
        y.gives(1, "inspect(0, 0)");
        y.gives(0, "inspect(0, 1)");
        y.does("day(1)");
        y.gives(1, "inspect(0, 0)");
    }

    static void promise27_day_aDroneLeavesAt24Days(Run y) {
        y.does("hive(0); box(0); frame(0, 1); put(0, 0, 400); day(21)");
        fields(y, 0, 421);
        y.does("day(2)");
        fields(y, 0, 423);
        y.gives(0, "inspect(0, 1)");
        y.does("day(1)");
        fields(y, 0, 0);
        y.gives(1, "inspect(0, 1)");
        y.gives(0, "inspect(0, 0)");
        y.does("day(1)");
        y.gives(1, "inspect(0, 1)");
    }

    static void promise27_day_onlyYoungGrow(Run y) {
        y.does("hive(0); box(0); frame(0, 4); bring(0, 199); put(0, 2, 200); day(30)");
        fields(y, 0, 100, 99, 200, 0);
    }

    static void promise27_day_youngOfTheLastBoxAndFieldGrow(Run y) {
        y.does("hive(0)");
        y.does(8, "box(0)");
        y.does("frame(95, 64); frame(0, 1); put(95, 63, 300); put(0, 0, 400); day(1)");
        y.gives(301, "field(95, 63)");
        y.gives(401, "field(0, 0)");
    }

    static void promise27_day_onTheBenchNothingGrows(Run y) {
        y.does("hive(0); box(0); frame(0, 1); put(0, 0, 300); out(0); day(30); back(0, 0)");
        fields(y, 0, 300);
        y.gives(0, "inspect(0, 0)");
    }

    static void promise27_day_thoseThatLeftEatTheSameDay(Run y) {
        y.does("hive(0); box(0); frame(0, 2); put(0, 0, 300); put(0, 1, 400); day(20)");
        y.gives(0, "inspect(0, 2)");
        y.does("day(1)");
        y.gives(1, "inspect(0, 2)");
        y.does("day(3)");
        y.gives(1 + 3 + 1, "inspect(0, 2)");
    }

    static void promise27_day_aFieldThatWasLeftIsLaidIntoTheSameDay(Run y) {
        laying(y, 5);
        y.does("frame(0, 1); put(0, 0, 300); day(20)");
        fields(y, 0, 320);
        y.does("day(1)");
        fields(y, 0, 300);
        y.gives(1, "inspect(0, 0)");
    }

    // ---- LAYING

    static void promise27_day_findings(Run y) {
        y.does(7, "hive(0)");
        y.does("thing(0); thing(1); thing(2); thing(3); swarm(6, 4); swarm(6, 5)");
        for (int t = 0; t < 6; t++) {
            y.does("slot(" + t + ", " + t + ")");
        }
        for (int h = 0; h < 7; h++) {
            y.gives(0, "inspect(" + h + ", 4)");
        }
        y.does("day(1)");
        int[] due = {0, 0, 0, 3, 3, 3, 1};
        for (int h = 0; h < 7; h++) {
            y.gives(due[h], "inspect(" + h + ", 4)");
        }
    }

    static void promise27_day_findingIsOfTheLatestDay(Run y) {
        y.does("hive(0); thing(0); thing(3); day(1)");
        y.gives(1, "inspect(0, 4)");
        y.does("slot(0, 1)");
        y.gives(1, "inspect(0, 4)");
        y.does("day(1)");
        y.gives(3, "inspect(0, 4)");
        y.does("slot(0, 0); day(1)");
        y.gives(0, "inspect(0, 4)");
        y.does("slot(0, -1)");
        y.gives(0, "inspect(0, 4)");
        y.does("day(1)");
        y.gives(1, "inspect(0, 4)");
        y.gives(1, "undo()");
        y.gives(0, "inspect(0, 4)");
    }

    static void promise27_day_nothingIsLaidWithoutAQueen(Run y) {
        y.does("hive(0); hive(0); hive(100); box(0); box(1); frame(0, 9); frame(96, 9); thing(3); slot(0, 0); swarm(2, 4)");
        y.does("slot(1, 1); day(1)");
        y.gives(9, "inspect(0, 10)");
        y.gives(9, "inspect(1, 10)");
        y.does("slot(0, -1); day(1)");
        y.gives(9, "inspect(0, 10)");
    }

    static void promise27_day_nothingIsLaidByOneThatLays0(Run y) {
        y.does("hive(0); box(0); frame(0, 9); thing(1); slot(0, 0); day(15)");
        y.gives(9, "inspect(0, 10)");
        y.gives(0, "inspect(0, 4)");
    }

    static void promise27_day_layingWithoutRoom(Run y) {
        y.does("hive(0); thing(0); slot(0, 0); day(1)");
        y.gives(0, "inspect(0, 7)");
        y.does("box(0); day(1)");
        y.gives(0, "inspect(0, 7)");
        y.does("frame(6, 0); day(1)");
        y.gives(0, "inspect(0, 7)");
        y.gives(0, "inspect(0, 4)");
    }

    static void promise27_day_layingAsLongAsThereAreEmptyFields(Run y) {
        for (int size = 4; size <= 6; size++) {
            y.anew();
            laying(y, 5);
            y.does("frame(6, " + size + "); day(1)");
            y.gives(Math.min(size, 5), "inspect(0, 7)");
            y.gives(Math.max(size - 5, 0), "inspect(0, 10)");
        }
    }

    static void promise27_day_layingOnlyIntoEmptyFields(Run y) {
        laying(y, 5);
        y.does("frame(6, 6); bring(0, 101); put(6, 2, 200); put(6, 3, 300); put(6, 4, 400); day(1)");
        fields(y, 6, 100, 1, 200, 301, 401, 300);
    }

    static void promise27_day_layingFrom32OutwardsToBothEnds(Run y) {
        laying(y, 5);
        y.does("frame(6, 64); day(1)");
        for (int i = 29; i <= 35; i++) {
            y.gives(i >= 30 && i <= 34 ? 300 : 0, "field(6, " + i + ")");
        }
        y.gives(5, "inspect(0, 7)");
        y.does("lay(0, 1); day(1)");
        y.gives(300, "field(6, 29)");
        y.gives(300, "field(6, 35)");
        y.gives(300, "field(6, 27)");
        y.gives(300, "field(6, 37)");
        y.gives(0, "field(6, 26)");
        y.gives(0, "field(6, 38)");
    }

    static void promise27_day_layingIntoField63AheadOf0(Run y) {
        for (int eggs = 62; eggs <= 64; eggs++) {
            y.anew();
            laying(y, eggs);
            y.does("frame(6, 64); day(1)");
            y.gives(300, "field(6, 1)");
            y.gives(eggs >= 63 ? 300 : 0, "field(6, 63)");
            y.gives(eggs >= 64 ? 300 : 0, "field(6, 0)");
        }
    }

    static void promise27_day_layingGoesOnInTheNextFrame(Run y) {
        laying(y, 65);
        y.does("frame(6, 64); frame(5, 64); frame(7, 64); day(1)");
        y.gives(0, "inspect(0, 8)");
        y.gives(65, "inspect(0, 7)");
        y.gives(300, "field(5, 32)");
        y.gives(0, "field(5, 31)");
        y.gives(0, "field(7, 32)");
    }

    static void promise27_day_layingIntoFieldsThatAFrameHas(Run y) {
        int[] sizes = {1, 5, 31, 32, 33, 34};
        int[][] laid = {{0}, {0, 1, 2, 3, 4}, {26, 27, 28, 29, 30}, {27, 28, 29, 30, 31}, {28, 29, 30, 31, 32}, {29, 30, 31, 32, 33}};
        for (int k = 0; k < sizes.length; k++) {
            y.anew();
            laying(y, 5);
            y.does("frame(6, " + sizes[k] + "); day(1)");
            y.gives(laid[k].length, "inspect(0, 7)");
            for (int i : laid[k]) {
                y.gives(300, "field(6, " + i + ")");
            }
        }
    }

    static void promise27_day_layingInPlacesFromTheMiddle(Run y) {
        for (int eggs = 5; eggs <= 14; eggs++) {
            y.anew();
            laying(y, eggs);
            y.does("box(0)");
            for (int p = 0; p < 24; p++) {
                y.does("frame(" + p + ", 1)");
            }
            y.does("day(1)");
            for (int k = 0; k < 12; k++) {
                y.gives(k < eggs ? 300 : 0, "field(" + PLACES_FROM_THE_MIDDLE[k] + ", 0)");
            }
            y.gives(eggs >= 13 ? 300 : 0, "field(18, 0)");
            y.gives(eggs >= 14 ? 300 : 0, "field(17, 0)");
            y.gives(0, "field(19, 0)");
        }
    }

    static void promise27_day_layingInTheTopBoxLast(Run y) {
        laying(y, 6);
        y.does(7, "box(0)");
        y.does("frame(90, 1); frame(84, 1); frame(95, 1); frame(78, 1); frame(12, 1); frame(11, 1); day(1)");
        y.gives(6, "inspect(0, 7)");
        y.anew();
        laying(y, 5);
        y.does(7, "box(0)");
        y.does("frame(90, 1); frame(84, 1); frame(95, 1); frame(78, 1); frame(12, 1); frame(11, 1); day(1)");
        y.gives(0, "field(84, 0)");
        y.gives(300, "field(95, 0)");
    }

    static void promise27_day_205AreTheMost(Run y) {
        laying(y, 205);
        y.does("frame(3, 64); frame(4, 64); frame(5, 64); frame(6, 64); day(1)");
        y.gives(205, "inspect(0, 7)");
        y.gives(51, "inspect(0, 10)");
    }

    static void promise27_day_dronesYoungIfBelow0(Run y) {
        for (int size = 4; size <= 6; size++) {
            y.anew();
            y.does("hive(0); box(0); frame(6, " + size + "); thing(1); slot(0, 0); day(16)");
            y.gives(Math.max(size - 5, 0), "inspect(0, 10)");
            y.gives(6, "find(400, 0)");
            y.gives(-1, "find(300, 0)");
            y.gives(400, "field(6, " + (size - 1) + ")");
            y.gives(size == 6 ? 0 : 400, "field(6, 0)");
        }
    }

    static void promise27_day_layingInItsOwnHiveAlone(Run y) {
        y.does("hive(0); hive(0); hive(0); box(0); box(1); box(2); frame(0, 9); frame(96, 9); frame(192, 9)");
        y.does("thing(0); slot(1, 0); day(1)");
        y.gives(9, "inspect(0, 10)");
        y.gives(4, "inspect(1, 10)");
        y.gives(9, "inspect(2, 10)");
    }

    static void promise27_day_layingWithoutRoomGoesNowhereElse(Run y) {
        y.does("hive(0); hive(0); box(0); box(1); frame(96, 9); frame(97, 9); frame(6, 2); out(97); thing(0); slot(0, 0); day(1)");
        y.gives(2, "inspect(0, 7)");
        y.gives(9, "inspect(1, 10)");
        y.does("back(0, 97)");
        y.gives(18, "inspect(1, 10)");
        y.does(7, "box(0)");
        y.does("day(1)");
        y.gives(2, "inspect(0, 7)");
        y.gives(18, "inspect(1, 10)");
    }

    static void promise27_day_layingNotIntoABoxThatLeft(Run y) {
        y.does("hive(0); hive(0); box(0); box(0); frame(6, 2); frame(18, 9); thing(0); slot(0, 0); stack(0, 1); day(1)");
        y.gives(2, "inspect(0, 7)");
        y.gives(9, "inspect(1, 10)");
        y.gives(0, "inspect(1, 7)");
    }

    // ---- EATING

    static void promise27_day_eatingForEach100InHunger(Run y) {
        dayOf(y, 99, 10);
        after(y, 97, 99, 0);
        dayOf(y, 100, 10);
        after(y, 98, 0, 1);
        dayOf(y, 101, 10);
        after(y, 99, 1, 1);
        dayOf(y, 199, 10);
        after(y, 195, 99, 1);
        dayOf(y, 200, 10);
        after(y, 195, 0, 2);
    }

    static void promise27_day_hungerIsKeptToTheNextDay(Run y) {
        y.does("hive(50); box(0); frame(0, 1); bring(0, 10); day(1)");
        after(y, 49, 50, 0);
        y.does("day(1)");
        after(y, 48, 99, 0);
        y.does("day(1)");
        after(y, 47, 47, 1);
    }

    static void promise27_day_eatingJustWhatThereIs(Run y) {
        dayOf(y, 300, 4);
        after(y, 293, 0, 3);
        y.gives(1, "honey(0)");
        dayOf(y, 300, 3);
        after(y, 293, 0, 3);
        y.gives(0, "honey(0)");
        dayOf(y, 300, 2);
        after(y, 195, 0, 2);
        dayOf(y, 300, 1);
        after(y, 98, 0, 1);
        dayOf(y, 300, 0);
        after(y, 0, 0, 0);
    }

    static void promise27_day_asManyDieAsThereAre(Run y) {
        y.does("hive(50); hive(51); day(1)");
        y.gives(49, "inspect(0, 0)");
        y.does("day(1)");
        y.gives(48, "inspect(0, 0)");
        y.gives(99, "inspect(0, 2)");
        y.gives(0, "inspect(1, 0)");
        y.gives(1, "inspect(1, 2)");
        y.does("day(1)");
        after(y, 0, 47, 0);
        y.gives(1, "inspect(1, 2)");
    }

    static void promise27_day_100DieOf100AndOf101(Run y) {
        dayOf(y, 100, 0);
        after(y, 0, 0, 0);
        dayOf(y, 101, 0);
        after(y, 1, 1, 0);
    }

    static void promise27_day_dronesEatAndDoNotDie(Run y) {
        y.does("hive(0); box(0); frame(0, 50)");
        for (int i = 0; i < 50; i++) {
            y.does("put(0, " + i + ", 400)");
        }
        y.does("day(24)");
        y.gives(50, "inspect(0, 1)");
        after(y, 0, 50, 0);
        y.does("bring(0, 1); day(1)");
        after(y, 0, 0, 1);
        y.does("day(2)");
        after(y, 0, 0, 1);
        y.gives(50, "inspect(0, 1)");
    }

    static void promise27_day_eatingFromBoxesPlacesFieldsFrom0On(Run y) {
        y.does("hive(20000); box(0); box(0); frame(12, 2); frame(11, 1); frame(0, 1); bring(0, 400); put(11, 0, 0); bring(0, 1)");
        y.does("day(1)");
        y.gives(0, "field(0, 0)");
        y.gives(0, "field(11, 0)");
        y.gives(1, "field(12, 0)");
        y.gives(100, "field(12, 1)");
        y.gives(200, "honey(2)");
    }

    static void promise27_day_aFieldThatWasEatenIsEmpty(Run y) {
        y.does("hive(100); box(0); frame(0, 1); bring(0, 2); day(1)");
        fields(y, 0, 1);
        y.gives(0, "inspect(0, 10)");
        y.anew();
        y.does("hive(100); box(0); frame(0, 1); bring(0, 1); day(1)");
        fields(y, 0, 0);
        y.gives(1, "inspect(0, 10)");
    }

    static void promise27_day_neitherTheBenchNorAnotherHiveFeeds(Run y) {
        y.does("hive(100); hive(0); box(0); box(1); frame(0, 1); frame(96, 1); bring(0, 50); bring(1, 50); out(0); day(1)");
        y.gives(100, "honey(0)");
        after(y, 0, 0, 0);
    }

    static void promise27_day_aBoxThatLeftDoesNotFeed(Run y) {
        y.does("hive(100); hive(0); box(0); box(0); frame(12, 1); bring(0, 50); stack(0, 1); day(1)");
        y.gives(50, "honey(0)");
        after(y, 0, 0, 0);
    }

    static void promise27_day_youngInABoxThatLeftGrowOnceADay(Run y) {
        y.does("hive(0); hive(0); box(0); box(0); frame(12, 1); put(12, 0, 300); stack(0, 1); day(20)");
        y.gives(320, "field(96, 0)");
        y.does("day(1)");
        y.gives(0, "inspect(0, 0)");
        y.gives(1, "inspect(1, 0)");
    }

    /** A FIELD that is eaten EMPTY is laid into on the next day. */
    static void promise27_day_layingComesAheadOfEating(Run y) {
        laying(y, 5);
        y.does("frame(6, 1); hive(100); join(0, 1); bring(0, 1); day(1)");
        after(y, 98, 0, 1);
        fields(y, 6, 0);
        y.does("day(1)");
        fields(y, 6, 300);
    }

    // ---- DYING

    static void promise27_day_aFortiethDiesRoundedDown(Run y) {
        int[] bees = {0, 1, 39, 40, 41, 79, 80, 81};
        int[] left = {0, 1, 39, 39, 40, 78, 78, 79};
        for (int h = 0; h < bees.length; h++) {
            y.does("hive(" + bees[h] + ")");
        }
        y.does("day(1)");
        for (int h = 0; h < bees.length; h++) {
            y.gives(left[h], "inspect(" + h + ", 0)");
        }
    }

    static void promise27_day_dyingComesBehindEating(Run y) {
        dayOf(y, 140, 0);
        after(y, 39, 40, 0);
        dayOf(y, 139, 0);
        after(y, 39, 39, 0);
        dayOf(y, 140, 1);
        after(y, 137, 40, 1);
    }

    static void promise27_day_all40Hives(Run y) {
        y.does(40, "hive(40)");
        y.does("day(1)");
        for (int h = 0; h < 40; h++) {
            y.gives(39, "inspect(" + h + ", 0)");
            y.gives(1, "inspect(" + h + ", 4)");
        }
    }
}
