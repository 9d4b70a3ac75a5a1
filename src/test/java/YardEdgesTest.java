/** Promises 1 to 10, and the terms' section 1: a test for each sentence that names a boundary. */
public final class YardEdgesTest {
    private YardEdgesTest() {
    }

    public static void main(String[] args) throws IllegalAccessException {
        Edges.run(YardEdgesTest.class);
    }

    // ---- terms, section 1

    static void terms_aBoxHasTwelvePlaces(Run y) {
        y.does("hive(0); box(0)");
        y.gives(0, "frame(0, 1)");
        y.gives(1, "frame(11, 1)");
        y.refuses(1, "frame(12, 1)");
        y.does("box(0)");
        y.gives(2, "frame(12, 1)");
        y.gives(3, "frame(23, 1)");
        y.refuses(1, "frame(24, 1)");
    }

    static void terms_aHiveHasNinetySixPlaces(Run y) {
        y.does("hive(0); hive(0); box(1)");
        y.does(8, "box(0)");
        y.gives(0, "frame(95, 1)");
        y.gives(1, "frame(96, 1)");
        y.gives(0, "at(95)");
        y.gives(1, "at(96)");
        y.gives(84 + 11, "where(0)");
        y.does("stack(0, 1)");
        y.gives(96 + 12 + 11, "where(0)");
        y.gives(96, "where(1)");
    }

    static void terms_aPlaceIsOfBoxAndHive(Run y) {
        y.does("hive(0); hive(0); hive(0)");
        y.does(3, "box(2)");
        y.gives(0, "frame(" + (2 * 96 + 2 * 12 + 5) + ", 4)");
        y.does("stack(2, 0)");
        y.gives(5, "where(0)");
        y.does("stack(0, 1)");
        y.gives(96 + 5, "where(0)");
    }

    static void terms_placesFrom0To3839(Run y) {
        Yards.lastPlaces(y);
        y.does("box(0)");
        y.refuses(2, "frame(-1, 1)");
        y.gives(0, "frame(0, 1)");
        y.gives(1, "frame(3839, 1)");
        y.refuses(2, "frame(3840, 1)");
    }

    static void terms_honeyOfOneFieldFrom1To100(Run y) {
        y.does("hive(0); box(0); frame(0, 2)");
        y.does("bring(0, 1)");
        y.gives(1, "field(0, 0)");
        y.does("bring(0, 98)");
        y.gives(99, "field(0, 0)");
        y.does("bring(0, 1)");
        y.gives(100, "field(0, 0)");
        y.gives(0, "field(0, 1)");
        y.does("bring(0, 1)");
        y.gives(100, "field(0, 0)");
        y.gives(1, "field(0, 1)");
    }

    static void terms_workersYoungAreAtMost20DaysOld(Run y) {
        y.does("hive(0); box(0); frame(0, 1); put(0, 0, 300)");
        y.does("day(19)");
        y.gives(319, "field(0, 0)");
        y.does("day(1)");
        y.gives(320, "field(0, 0)");
        y.does("day(1)");
        y.gives(0, "field(0, 0)");
    }

    static void terms_dronesYoungAreAtMost23DaysOld(Run y) {
        y.does("hive(0); box(0); frame(0, 1); put(0, 0, 400)");
        y.does("day(22)");
        y.gives(422, "field(0, 0)");
        y.does("day(1)");
        y.gives(423, "field(0, 0)");
        y.does("day(1)");
        y.gives(0, "field(0, 0)");
    }

    private static void stagesOf(Run y, String egg) {
        y.does("hive(0); box(0); frame(0, 1); put(0, 0, " + egg + ")");
        int[] days = {0, 2, 3, 8, 9, 20};
        int[] stages = {7, 7, 8, 8, 9, 9};
        for (int i = 0; i < days.length; i++) {
            if (i > 0) {
                y.does("day(" + (days[i] - days[i - 1]) + ")");
            }
            for (int what = 7; what <= 9; what++) {
                y.gives(what == stages[i] ? 1 : 0, "inspect(0, " + what + ")");
            }
        }
    }

    static void terms_eggsOfLessThan3DaysBroodOfLessThan9OfWorkers(Run y) {
        stagesOf(y, "300");
    }

    static void terms_eggsOfLessThan3DaysBroodOfLessThan9OfDrones(Run y) {
        stagesOf(y, "400");
        y.does("day(3)");
        y.gives(1, "inspect(0, 9)");
        y.does("day(1)");
        y.gives(0, "inspect(0, 9)");
    }

    // ---- 1 a new object

    static void promise1_new_numbersAre0(Run y) {
        y.tells(0, "status()");
        y.tells(0, "moved()");
        for (int b = 0; b <= 16; b++) {
            y.tells(0, "trace(" + b + ")");
        }
        for (int what = 0; what <= 4; what++) {
            y.gives(0, "honey(" + what + ")");
        }
    }

    static void promise1_new_nothingIsThere(Run y) {
        y.refuses(1, "inspect(0, 0)");
        y.refuses(1, "gap(0)");
        y.refuses(1, "at(0)");
        y.refuses(1, "where(0)");
        y.refuses(1, "back(0, 0)");
        y.refuses(1, "back(23, 0)");
        y.refuses(1, "ask(0, 0)");
        y.refuses(1, "ledger(0, 0)");
        y.refuses(1, "shared(0)");
        y.refuses(1, "letter(0)");
        y.refuses(1, "copy(0, 0, 0)");
        y.refuses(1, "chosen(0)");
        y.gives(-1, "find(0, 0)");
    }

    static void promise1_new_nothingToTakeBack(Run y) {
        y.gives(0, "undo()");
        y.gives(0, "undo()");
    }

    static void promise1_new_numbersBeginAt0(Run y) {
        y.gives(0, "hive(5)");
        y.gives(0, "box(0)");
        y.gives(0, "frame(0, 1)");
        y.gives(0, "thing(0)");
        y.gives(1, "day(1)");
        y.gives(0, "harvest(0)");
        y.gives(0, "ledger(0, 0)");
        y.gives(0, "out(0)");
        y.gives(1, "sample(0, 0, 1)");
    }

    static void promise1_new_digestGoesOver27Noughts(Run y) {
        int d = 17;
        for (int i = 0; i < 3 + 1 + 5 + 1 + 17; i++) {
            d *= 31;
        }
        y.tells(d, "digest()");
    }

    static void promise1_new_objectsHaveNothingInCommon(Run y) {
        y.does("hive(5); box(0); frame(0, 3); thing(0); ask(0, 2); export(0); share(0, 1); plan(0, 0); harvest(0)");
        y.refuses(6, "honey(9)");
        y.anew();
        y.tells(0, "status()");
        y.refuses(1, "inspect(0, 0)");
        y.refuses(1, "where(0)");
        y.refuses(1, "ask(0, 0)");
        y.refuses(1, "letter(0)");
        y.refuses(1, "shared(0)");
        y.refuses(1, "chosen(0)");
        y.refuses(1, "ledger(0, 0)");
        y.tells(0, "trace(3)");
        y.gives(0, "undo()");
    }

    // ---- 2 hive

    static void promise2_hive_bees0To20000(Run y) {
        y.refuses(6, "hive(MIN)");
        y.refuses(6, "hive(-1)");
        y.gives(0, "hive(0)");
        y.gives(1, "hive(1)");
        y.gives(2, "hive(19999)");
        y.gives(3, "hive(20000)");
        y.refuses(6, "hive(20001)");
        y.refuses(6, "hive(MAX)");
        y.gives(0, "inspect(0, 0)");
        y.gives(20000, "inspect(3, 0)");
        y.refuses(1, "inspect(4, 0)");
    }

    static void promise2_hive_40AtMost(Run y) {
        y.does(39, "hive(1)");
        y.gives(39, "hive(2)");
        y.refuses(6, "hive(3)");
        y.refuses(6, "hive(20001)");
        y.gives(2, "inspect(39, 0)");
        y.gives(1, "undo()");
        y.gives(39, "hive(4)");
        y.gives(4, "inspect(39, 0)");
    }

    static void promise2_hive_aNewOneHasNothing(Run y) {
        y.does("hive(7)");
        for (int what = 1; what <= 11; what++) {
            y.gives(0, "inspect(0, " + what + ")");
        }
        y.gives(-1, "gap(0)");
        y.gives(0, "mites(0, 0)");
        y.gives(0, "mites(0, 1)");
        y.gives(0, "plan(0, 0)");
        y.gives(-1, "slot(0, -1)");
        y.gives(1, "sample(0, 0, 1)");
    }

    static void promise2_hive_aNewOneHasNothingOfOneTakenBack(Run y) {
        y.does("hive(0); hive(20000); undo()");
        y.refuses(1, "inspect(1, 0)");
        y.gives(1, "hive(7)");
        y.gives(7, "inspect(1, 0)");
        for (int what = 1; what <= 5; what++) {
            y.gives(0, "inspect(1, " + what + ")");
        }
    }

    // ---- 3 box

    static void promise3_box_hiveNumbers(Run y) {
        y.refuses(1, "box(0)");
        y.does("hive(0); hive(0)");
        y.refusesHives("box(#)", 2);
        y.gives(0, "box(0)");
        y.gives(0, "box(1)");
    }

    static void promise3_box_hiveNumber39(Run y) {
        y.does(40, "hive(0)");
        y.gives(0, "box(39)");
        y.refusesHives("box(#)", 40);
    }

    static void promise3_box_8AtMost(Run y) {
        y.does("hive(0); hive(0)");
        for (int i = 0; i < 8; i++) {
            y.gives(i, "box(0)");
        }
        y.refuses(6, "box(0)");
        y.gives(8, "inspect(0, 3)");
        y.gives(0, "box(1)");
        y.does("stack(0, 1)");
        y.gives(7, "box(0)");
        y.refuses(6, "box(0)");
    }

    static void promise3_box_hasNoFrames(Run y) {
        y.does("hive(0); hive(0); box(0)");
        y.gives(12, "inspect(0, 5)");
        y.gives(0, "gap(0)");
        for (int p = 0; p < 12; p++) {
            y.refuses(1, "at(" + p + ")");
        }
        Yards.frames(y, 0, 12, 1);
        y.does("stack(0, 1)");
        y.gives(0, "box(0)");
        y.gives(12, "inspect(0, 5)");
        y.gives(0, "gap(0)");
        for (int p = 0; p < 12; p++) {
            y.refuses(1, "at(" + p + ")");
        }
    }

    // ---- 4 frame

    static void promise4_frame_places(Run y) {
        Yards.small(y);
        y.refusesPlaces("frame(#, 5)");
        y.gives(0, "frame(0, 5)");
        y.gives(1, "frame(11, 5)");
    }

    static void promise4_frame_lastPlace(Run y) {
        Yards.lastPlaces(y);
        y.gives(0, "frame(3839, 5)");
        y.refuses(1, "frame(3743, 5)");
        y.gives(1, "frame(3744, 5)");
        y.refuses(2, "frame(3840, 5)");
    }

    static void promise4_frame_fields0To64(Run y) {
        y.does("hive(0); box(0)");
        y.refuses(5, "frame(0, MIN)");
        y.refuses(5, "frame(0, -1)");
        y.gives(0, "frame(0, 0)");
        y.gives(1, "frame(1, 1)");
        y.gives(2, "frame(2, 63)");
        y.gives(3, "frame(3, 64)");
        y.refuses(6, "frame(4, 65)");
        y.refuses(6, "frame(4, MAX)");
        y.refuses(2, "field(0, 0)");
        y.gives(0, "field(1, 0)");
        y.refuses(2, "field(1, 1)");
        y.gives(0, "field(3, 63)");
    }

    static void promise4_frame_fieldsAreEmpty(Run y) {
        y.does("hive(0); box(0); frame(0, 64)");
        for (int i = 0; i < 64; i++) {
            y.gives(0, "field(0, " + i + ")");
        }
        y.gives(64, "inspect(0, 10)");
    }

    static void promise4_frame_fieldsAreThoseOfTheNewOneAfterOneTakenBack(Run y) {
        y.does("hive(0); box(0); frame(0, 64); undo()");
        y.refuses(1, "at(0)");
        y.gives(0, "frame(1, 6)");
        y.refuses(1, "at(0)");
        y.gives(0, "field(1, 5)");
        y.refuses(2, "field(1, 6)");
        y.does("bring(0, 600); undo()");
        y.gives(6, "inspect(0, 10)");
    }

    static void promise4_frame_200AtMost(Run y) {
        y.does("hive(0); hive(0); hive(0)");
        for (int h = 0; h < 3; h++) {
            y.does(8, "box(" + h + ")");
        }
        Yards.frames(y, 0, 199, 1);
        y.gives(199, "frame(199, 1)");
        y.refuses(6, "frame(200, 1)");
        y.gives(199, "at(199)");
        y.does("out(199)");
        y.refuses(6, "frame(199, 1)");
    }

    static void promise4_frame_noneWhereOneIs(Run y) {
        y.does("hive(0); box(0); frame(3, 5)");
        y.refuses(6, "frame(3, 5)");
        y.gives(1, "frame(2, 5)");
        y.gives(2, "frame(4, 5)");
        y.does("out(3)");
        y.gives(3, "frame(3, 5)");
    }

    static void promise4_frame_placeAheadOf6And5(Run y) {
        Yards.small(y);
        y.refuses(2, "frame(-1, 65)");
        y.refuses(2, "frame(3840, 65)");
        y.refuses(2, "frame(3840, -1)");
        y.refuses(1, "frame(12, 65)");
        y.refuses(1, "frame(192, 65)");
        y.refuses(1, "frame(12, -1)");
    }

    static void promise4_frame_6AheadOf5(Run y) {
        y.does("hive(0); box(0); frame(3, 5)");
        y.refuses(6, "frame(3, -1)");
        y.refuses(5, "frame(2, -1)");
    }

    static void promise4_frame_6Of200AheadOf5(Run y) {
        y.does("hive(0); hive(0); hive(0)");
        for (int h = 0; h < 3; h++) {
            y.does(8, "box(" + h + ")");
        }
        Yards.frames(y, 0, 199, 0);
        y.refuses(5, "frame(199, -1)");
        y.does("frame(199, 0)");
        y.refuses(6, "frame(200, -1)");
        y.refuses(2, "frame(-1, -1)");
        y.refuses(1, "frame(288, -1)");
    }

    // ---- 5 out

    static void promise5_out_places(Run y) {
        Yards.small(y);
        y.refusesPlaces("out(#)");
        y.refuses(1, "out(0)");
        y.does("frame(0, 1); frame(11, 1)");
        y.gives(0, "out(0)");
        y.gives(1, "out(11)");
        y.refuses(1, "out(0)");
    }

    static void promise5_out_lastPlace(Run y) {
        Yards.lastPlaces(y);
        y.does("frame(3839, 1)");
        y.refuses(2, "out(3840)");
        y.refuses(1, "out(3838)");
        y.gives(0, "out(3839)");
    }

    static void promise5_out_benchHas24Places(Run y) {
        y.does("hive(0); box(0); box(0); box(0)");
        Yards.frames(y, 0, 25, 1);
        for (int k = 0; k < 24; k++) {
            y.gives(k, "out(" + k + ")");
        }
        y.refuses(6, "out(24)");
        y.gives(24, "at(24)");
        y.does("back(23, 0)");
        y.gives(23, "out(24)");
    }

    static void promise5_out_leastFreePlace(Run y) {
        y.does("hive(0); box(0)");
        Yards.frames(y, 0, 6, 1);
        y.does("out(0); out(1); out(2); out(3)");
        y.does("back(2, 6); back(0, 7)");
        y.gives(0, "out(4)");
        y.gives(2, "out(5)");
        y.gives(4, "out(6)");
    }

    static void promise5_out_theFrameIsNoLongerThere(Run y) {
        y.does("hive(0); box(0); frame(4, 9); bring(0, 120); out(4)");
        y.refuses(1, "at(4)");
        y.refuses(1, "field(4, 0)");
        y.gives(-2, "where(0)");
        y.gives(12, "inspect(0, 5)");
        y.gives(0, "inspect(0, 6)");
        y.gives(120, "honey(0)");
    }

    static void promise5_out_frameAheadOfNoRoom(Run y) {
        Yards.small(y);
        y.does("box(1); box(1)");
        Yards.frames(y, 96, 24, 1);
        for (int k = 0; k < 24; k++) {
            y.does("out(" + (96 + k) + ")");
        }
        y.refuses(2, "out(-1)");
        y.refuses(2, "out(3840)");
        y.refuses(1, "out(12)");
        y.refuses(1, "out(192)");
        y.refuses(1, "out(0)");
        y.does("frame(0, 1)");
        y.refuses(6, "out(0)");
    }

    // ---- 6 back

    static void promise6_back_benchFrom0To23(Run y) {
        y.does("hive(0); box(0); box(0)");
        Yards.frames(y, 0, 24, 1);
        for (int k = 0; k < 24; k++) {
            y.does("out(" + k + ")");
        }
        y.refuses(2, "back(MIN, 0)");
        y.refuses(2, "back(-1, 0)");
        y.gives(1, "back(0, 5)");
        y.gives(1, "back(23, 6)");
        y.refuses(2, "back(24, 0)");
        y.refuses(2, "back(MAX, 0)");
        y.gives(0, "at(5)");
        y.gives(23, "at(6)");
    }

    static void promise6_back_nothingThere(Run y) {
        y.does("hive(0); box(0)");
        y.refuses(1, "back(0, 0)");
        y.refuses(1, "back(23, 0)");
        y.does("frame(0, 1); out(0)");
        y.refuses(1, "back(1, 0)");
        y.gives(1, "back(0, 0)");
        y.refuses(1, "back(0, 1)");
    }

    static void promise6_back_places(Run y) {
        Yards.small(y);
        y.does("frame(0, 1); frame(1, 2); out(0); out(1)");
        y.refusesPlaces("back(0, #)");
        y.gives(1, "back(0, 11)");
        y.gives(1, "back(1, 0)");
        y.gives(0, "at(11)");
        y.gives(1, "at(0)");
    }

    static void promise6_back_lastPlace(Run y) {
        Yards.lastPlaces(y);
        y.does("frame(3744, 1); out(3744)");
        y.refuses(2, "back(0, 3840)");
        y.gives(1, "back(0, 3839)");
        y.gives(3839, "where(0)");
    }

    static void promise6_back_notWhereAFrameIs(Run y) {
        y.does("hive(0); box(0); frame(0, 1); frame(1, 2); out(0)");
        y.refuses(6, "back(0, 1)");
        y.gives(-2, "where(0)");
        y.gives(1, "back(0, 2)");
        y.gives(2, "where(0)");
    }

    static void promise6_back_statusesInOrder(Run y) {
        Yards.small(y);
        y.does("frame(0, 1); frame(1, 2); out(0)");
        y.refuses(2, "back(24, 12)");
        y.refuses(2, "back(-1, 1)");
        y.refuses(1, "back(1, -1)");
        y.refuses(1, "back(23, 3840)");
        y.refuses(1, "back(1, 1)");
        y.refuses(2, "back(0, -1)");
        y.refuses(1, "back(0, 12)");
        y.refuses(6, "back(0, 1)");
    }

    // ---- 7 at

    static void promise7_at_places(Run y) {
        Yards.small(y);
        y.refusesPlaces("at(#)");
        y.refuses(1, "at(0)");
        y.does("frame(11, 1); frame(0, 1)");
        y.gives(1, "at(0)");
        y.gives(0, "at(11)");
        y.refuses(1, "at(10)");
    }

    static void promise7_at_lastPlace(Run y) {
        Yards.lastPlaces(y);
        y.refuses(1, "at(3839)");
        y.does("frame(3839, 1)");
        y.gives(0, "at(3839)");
        y.refuses(2, "at(3840)");
    }

    static void promise7_at_frameNumber199(Run y) {
        y.does("hive(0); hive(0); hive(0)");
        for (int h = 0; h < 3; h++) {
            y.does(8, "box(" + h + ")");
        }
        Yards.frames(y, 0, 200, 0);
        y.gives(0, "at(0)");
        y.gives(199, "at(199)");
        y.refuses(1, "at(200)");
    }

    // ---- 8 where

    static void promise8_where_numbers(Run y) {
        y.refuses(2, "where(MIN)");
        y.refuses(2, "where(-1)");
        y.refuses(1, "where(0)");
        y.does("hive(0); box(0); frame(0, 1); frame(7, 1)");
        y.gives(0, "where(0)");
        y.gives(7, "where(1)");
        y.refuses(1, "where(2)");
        y.refuses(1, "where(199)");
        y.refuses(2, "where(200)");
        y.refuses(2, "where(MAX)");
    }

    static void promise8_where_number199(Run y) {
        y.does("hive(0); hive(0); hive(0)");
        for (int h = 0; h < 3; h++) {
            y.does(8, "box(" + h + ")");
        }
        Yards.frames(y, 1, 199, 0);
        y.refuses(1, "where(199)");
        y.does("frame(287, 0)");
        y.gives(287, "where(199)");
        y.refuses(2, "where(200)");
    }

    static void promise8_where_benchPlaces0And23(Run y) {
        y.does("hive(0); box(0); box(0)");
        Yards.frames(y, 0, 24, 1);
        for (int k = 0; k < 24; k++) {
            y.does("out(" + (23 - k) + ")");
        }
        y.gives(-2, "where(23)");
        y.gives(-3, "where(22)");
        y.gives(-24, "where(1)");
        y.gives(-25, "where(0)");
    }

    static void promise8_where_places0And3839(Run y) {
        Yards.lastPlaces(y);
        y.does("box(0); frame(3839, 1); frame(0, 1)");
        y.gives(3839, "where(0)");
        y.gives(0, "where(1)");
    }

    static void promise8_where_ofABoxThatLeft(Run y) {
        y.does("hive(0); hive(0); hive(0); box(1); frame(101, 1); stack(1, 0)");
        y.gives(5, "where(0)");
        y.does("split(0, 0, 2)");
        y.gives(197, "where(0)");
        y.does("join(1, 2)");
        y.gives(101, "where(0)");
    }

    // ---- 9 field

    static void promise9_field_places(Run y) {
        Yards.small(y);
        y.does("frame(0, 1)");
        y.refusesPlaces("field(#, 0)");
        y.refuses(1, "field(1, 0)");
        y.gives(0, "field(0, 0)");
    }

    static void promise9_field_lastPlace(Run y) {
        Yards.lastPlaces(y);
        y.does("frame(3839, 2)");
        y.gives(0, "field(3839, 1)");
        y.refuses(1, "field(3838, 1)");
        y.refuses(2, "field(3840, 1)");
    }

    static void promise9_field_numbers(Run y) {
        y.does("hive(0); box(0); frame(0, 3); put(0, 2, 200)");
        y.refuses(2, "field(0, MIN)");
        y.refuses(2, "field(0, -1)");
        y.gives(0, "field(0, 0)");
        y.gives(200, "field(0, 2)");
        y.refuses(2, "field(0, 3)");
        y.refuses(2, "field(0, MAX)");
    }

    static void promise9_field_number63(Run y) {
        y.does("hive(0); box(0); frame(0, 64); put(0, 63, 200)");
        y.gives(0, "field(0, 62)");
        y.gives(200, "field(0, 63)");
        y.refuses(2, "field(0, 64)");
    }

    static void promise9_field_ofNone(Run y) {
        y.does("hive(0); box(0); frame(0, 0); frame(1, 1)");
        y.refuses(2, "field(0, 0)");
        y.gives(0, "field(1, 0)");
    }

    static void promise9_field_frameAheadOfNumber(Run y) {
        Yards.small(y);
        y.refuses(1, "field(0, -1)");
        y.refuses(1, "field(12, 64)");
        y.refuses(1, "field(192, 64)");
    }

    // ---- 10 put

    static void promise10_put_places(Run y) {
        Yards.small(y);
        y.does("frame(0, 1)");
        y.refusesPlaces("put(#, 0, 200)");
        y.refuses(1, "put(1, 0, 200)");
        y.gives(0, "put(0, 0, 200)");
    }

    static void promise10_put_lastPlace(Run y) {
        Yards.lastPlaces(y);
        y.does("frame(3839, 2)");
        y.gives(0, "put(3839, 1, 300)");
        y.gives(300, "field(3839, 1)");
        y.refuses(1, "put(3838, 1, 300)");
        y.refuses(2, "put(3840, 1, 300)");
    }

    static void promise10_put_numbers(Run y) {
        y.does("hive(0); box(0); frame(0, 3); frame(1, 0); frame(2, 64)");
        y.refuses(2, "put(0, MIN, 200)");
        y.refuses(2, "put(0, -1, 200)");
        y.gives(0, "put(0, 0, 200)");
        y.gives(0, "put(0, 2, 200)");
        y.refuses(2, "put(0, 3, 200)");
        y.refuses(2, "put(1, 0, 200)");
        y.gives(0, "put(2, 63, 200)");
        y.refuses(2, "put(2, 64, 200)");
        y.refuses(2, "put(2, MAX, 200)");
        y.gives(3, "inspect(0, 11)");
    }

    static void promise10_put_values0And200And300And400(Run y) {
        y.does("hive(0); box(0); frame(0, 1)");
        String[] wrong = {"MIN", "-1", "1", "99", "100", "101", "199", "201", "299", "301", "320", "321", "399", "401", "423",
            "424", "500", "MAX"};
        for (String v : wrong) {
            y.refuses(6, "put(0, 0, " + v + ")");
        }
        y.gives(0, "put(0, 0, 200)");
        y.gives(200, "put(0, 0, 300)");
        y.gives(300, "put(0, 0, 400)");
        y.gives(400, "put(0, 0, 0)");
        y.gives(0, "put(0, 0, 0)");
    }

    static void promise10_put_spillsHoneyOf1AndOf100(Run y) {
        y.does("hive(0); box(0); frame(0, 2); bring(0, 101)");
        y.gives(100, "put(0, 0, 0)");
        y.gives(100, "honey(3)");
        y.gives(1, "put(0, 1, 300)");
        y.gives(101, "honey(3)");
        y.gives(0, "honey(0)");
    }

    static void promise10_put_spillsNothingElse(Run y) {
        y.does("hive(0); box(0); frame(0, 3); put(0, 0, 200); put(0, 1, 300); put(0, 2, 400); day(5)");
        y.gives(200, "put(0, 0, 0)");
        y.gives(305, "put(0, 1, 0)");
        y.gives(405, "put(0, 2, 0)");
        y.gives(0, "put(0, 2, 0)");
        y.gives(0, "honey(3)");
    }

    static void promise10_put_statusesInOrder(Run y) {
        Yards.small(y);
        y.does("frame(0, 1)");
        y.refuses(2, "put(-1, 0, 7)");
        y.refuses(1, "put(12, -1, 0)");
        y.refuses(1, "put(1, 64, 7)");
        y.refuses(1, "put(1, 0, 7)");
        y.refuses(2, "put(0, 1, 7)");
        y.refuses(2, "put(0, -1, 7)");
        y.refuses(6, "put(0, 0, 7)");
    }
}
