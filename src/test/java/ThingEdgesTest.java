/** Promises 20 to 26, 28 and 29, and the terms' section 4: a test for each sentence that names a boundary. */
public final class ThingEdgesTest {
    private static final int WHOLE = 1 << 30;

    private ThingEdgesTest() {
    }

    public static void main(String[] args) throws IllegalAccessException {
        Edges.run(ThingEdgesTest.class);
    }

    /** THINGS 0 to 'deepest', Queens all, each the mother of the next. */
    private static void lineDownTo(Run y, int deepest) {
        y.does(deepest + 1, "thing(0)");
        for (int t = 1; t <= deepest; t++) {
            y.does("line(" + t + ", " + (t - 1) + ", -1)");
        }
    }

    // ---- 20 thing

    static void promise20_thing_kinds0To3(Run y) {
        y.refuses(6, "thing(MIN)");
        y.refuses(6, "thing(-1)");
        for (int kind = 0; kind <= 3; kind++) {
            y.gives(kind, "thing(" + kind + ")");
            y.gives(kind, "ask(" + kind + ", 0)");
        }
        y.refuses(6, "thing(4)");
        y.refuses(6, "thing(5)");
        y.refuses(6, "thing(6)");
        y.refuses(6, "thing(MAX)");
        y.refuses(1, "ask(4, 0)");
    }

    static void promise20_thing_200AtMost(Run y) {
        y.does(199, "thing(3)");
        y.gives(199, "thing(1)");
        y.refuses(6, "thing(1)");
        y.refuses(6, "thing(4)");
        y.gives(1, "ask(199, 0)");
        y.gives(1, "undo()");
        y.gives(199, "thing(0)");
    }

    static void promise20_thing_200AtMostWithSwarms(Run y) {
        y.does("hive(0)");
        y.does(199, "swarm(0, 4)");
        y.gives(199, "thing(1)");
        y.refuses(6, "thing(1)");
    }

    static void promise20_thing_aNewOneHasNothing(Run y) {
        for (int kind = 0; kind <= 3; kind++) {
            y.does("thing(" + kind + ")");
            y.gives(0, "ask(" + kind + ", 1)");
            y.gives(-1, "ask(" + kind + ", 8)");
            y.gives(-1, "ask(" + kind + ", 9)");
            y.gives(0, "ask(" + kind + ", 10)");
            y.gives(-1, "ask(" + kind + ", 13)");
            y.gives(-1, "ask(" + kind + ", 14)");
        }
        y.gives(0, "ask(2, 11)");
        y.gives(-1, "ask(2, 12)");
    }

    /** A Swarm that was taken back leaves nothing in the THING that gets its number. */
    static void promise20_thing_aNewOneHasNothingOfOneTakenBack(Run y) {
        y.does("hive(100); thing(0); slot(0, 0); swarm(0, 4); undo()");
        y.gives(1, "thing(2)");
        y.gives(0, "ask(1, 3)");
        y.gives(-1, "ask(0, 14)");
        y.gives(0, "ask(0, 13)");
        y.gives(0, "ask(1, 11)");
        y.gives(-1, "ask(1, 12)");
        y.does("undo()");
        y.gives(1, "swarm(0, 5)");
        y.gives(-1, "ask(0, 14)");
    }

    // ---- 21 line

    static void promise21_line_things(Run y) {
        Yards.oneOfEachKind(y, 60);
        y.refusesThings("line(#, -1, -1)", 6);
        y.refuses(2, "line(-1, -1, -1)");
        for (int t = 0; t < 6; t++) {
            y.gives(0, "line(" + t + ", -1, -1)");
        }
    }

    static void promise21_line_mothers(Run y) {
        Yards.oneOfEachKind(y, 60);
        y.does("thing(0)");
        y.refusesThings("line(6, #, -1)", 7);
        for (int t = 0; t <= 2; t++) {
            y.gives(1, "line(6, " + t + ", -1)");
            y.gives(t, "ask(6, 8)");
        }
        for (int t = 3; t <= 5; t++) {
            y.refuses(3, "line(6, " + t + ", -1)");
        }
        y.gives(0, "line(6, -1, -1)");
        y.gives(-1, "ask(6, 8)");
    }

    static void promise21_line_fathers(Run y) {
        Yards.oneOfEachKind(y, 60);
        y.does("thing(0)");
        y.refusesThings("line(6, -1, #)", 7);
        for (int t : new int[] {0, 1, 2, 4, 5}) {
            y.refuses(3, "line(6, -1, " + t + ")");
        }
        y.gives(1, "line(6, -1, 3)");
        y.gives(3, "ask(6, 9)");
        y.gives(0, "line(6, -1, -1)");
        y.gives(-1, "ask(6, 9)");
    }

    static void promise21_line_things199(Run y) {
        y.does(198, "thing(0)");
        y.does("thing(3)");
        y.refuses(1, "line(199, 0, -1)");
        y.refuses(1, "line(0, 199, -1)");
        y.refuses(1, "line(0, -1, 199)");
        y.does("thing(0)");
        y.gives(1, "line(199, 197, 198)");
        y.gives(2, "line(0, 199, -1)");
        y.refuses(2, "line(0, 200, -1)");
        y.refuses(2, "line(0, -1, 200)");
        y.refuses(2, "line(200, -1, -1)");
    }

    static void promise21_line_aDroneHasNoFather(Run y) {
        y.does("thing(0); thing(3); thing(3)");
        y.refuses(6, "line(1, 0, 2)");
        y.refuses(6, "line(1, -1, 2)");
        y.gives(1, "line(1, 0, -1)");
        y.gives(1, "line(0, -1, 2)");
    }

    static void promise21_line_ringOfItself(Run y) {
        y.does("thing(0); thing(0)");
        y.refuses(7, "line(0, 0, -1)");
        y.gives(1, "line(0, 1, -1)");
    }

    static void promise21_line_ringByMothersAndFathers(Run y) {
        // 0 is the mother of Drone 1, he the father of 2, she the mother of 3; 4 stands apart.
        y.does("thing(0); thing(3); thing(1); thing(2); thing(0); line(1, 0, -1); line(2, -1, 1); line(3, 2, -1)");
        y.refuses(7, "line(0, -1, 1)");
        y.refuses(7, "line(0, 2, -1)");
        y.refuses(7, "line(0, 3, -1)");
        y.refuses(7, "line(0, 4, 1)");
        y.refuses(7, "line(1, 2, -1)");
        y.refuses(7, "line(1, 3, -1)");
        y.refuses(7, "line(2, 3, -1)");
        y.gives(1, "line(0, 4, -1)");
        y.gives(4, "ask(3, 10)");
        y.refuses(7, "line(4, 3, -1)");
        y.gives(1, "line(3, 4, -1)");
        y.gives(1, "line(2, 4, -1)");
    }

    static void promise21_line_ringFromTheOtherEndOf15(Run y) {
        lineDownTo(y, 15);
        y.refuses(7, "line(0, 15, -1)");
        y.refuses(7, "line(0, 1, -1)");
        y.refuses(7, "line(14, 15, -1)");
        y.gives(0, "line(15, -1, -1)");
        y.gives(1, "line(15, 0, -1)");
    }

    /** The same with each mother made behind her daughter: 15 is the first, 0 the deepest. */
    static void promise21_line_ringWhereParentsHaveGreaterNumbers(Run y) {
        y.does(17, "thing(0)");
        for (int t = 14; t >= 0; t--) {
            y.gives(15 - t, "line(" + t + ", " + (t + 1) + ", -1)");
        }
        for (int t = 0; t <= 15; t++) {
            y.refuses(7, "line(15, " + t + ", -1)");
        }
        y.refuses(6, "line(15, 16, -1)");
        y.gives(0, "line(0, -1, -1)");
        y.gives(1, "line(15, 16, -1)");
        y.gives(15, "ask(1, 10)");
        y.gives(0, "ask(0, 10)");
    }

    static void promise21_line_depthsAreThoseThatStandBehindARefusedOne(Run y) {
        lineDownTo(y, 15);
        y.does("thing(0); thing(0)");
        y.refuses(6, "line(0, 16, -1)");
        y.gives(4, "line(17, 3, -1)");
        y.refuses(6, "line(0, 16, -1)");
        y.gives(1, "line(16, 0, -1)");
        y.gives(15, "ask(15, 10)");
    }

    static void promise21_line_depthsAreThoseThatStandBehindOneTakenBack(Run y) {
        y.does(4, "thing(0)");
        y.gives(1, "line(0, 3, -1)");
        y.does("undo()");
        y.gives(1, "line(1, 0, -1)");
        y.gives(0, "ask(0, 10)");
        y.gives(1, "line(2, 3, -1)");
        y.gives(2, "line(0, 2, -1)");
        y.gives(3, "ask(1, 10)");
    }

    static void promise21_line_depth15ButNot16(Run y) {
        lineDownTo(y, 14);
        y.does("thing(0); thing(0)");
        y.gives(15, "line(15, 14, -1)");
        y.refuses(6, "line(16, 15, -1)");
        y.gives(-1, "ask(16, 8)");
        y.gives(15, "line(16, 14, -1)");
    }

    static void promise21_line_depth15OfDronesToo(Run y) {
        lineDownTo(y, 14);
        y.does("thing(3); thing(0)");
        y.gives(15, "line(15, 14, -1)");
        y.refuses(6, "line(16, -1, 15)");
        y.gives(14, "line(15, 13, -1)");
        y.gives(15, "line(16, -1, 15)");
    }

    /** The DEPTH that would be above 15 is that of one further down. */
    static void promise21_line_depthOfThoseBelow(Run y) {
        lineDownTo(y, 14);
        y.does("thing(0); thing(0)");
        y.gives(1, "line(0, 15, -1)");
        y.gives(15, "ask(14, 10)");
        y.refuses(6, "line(15, 16, -1)");
        y.gives(0, "ask(15, 10)");
        y.gives(15, "ask(14, 10)");
        y.gives(0, "line(14, -1, -1)");
        y.gives(1, "line(15, 16, -1)");
        y.gives(15, "ask(13, 10)");
    }

    static void promise21_line_depthIsOfTheGreatestKnownParent(Run y) {
        lineDownTo(y, 3);
        y.does("thing(3); thing(0)");
        y.gives(1, "line(5, 0, -1)");
        y.gives(1, "line(5, -1, 4)");
        y.gives(3, "line(4, 2, -1)");
        y.gives(4, "ask(5, 10)");
        y.gives(4, "line(5, 2, 4)");
        y.gives(4, "line(5, 3, 4)");
        y.gives(2, "line(4, 1, -1)");
        y.gives(4, "ask(5, 10)");
        y.gives(2, "line(5, 1, -1)");
        y.gives(0, "line(5, -1, -1)");
    }

    static void promise21_line_thingAheadOfParents(Run y) {
        y.does("thing(0); thing(3)");
        y.refuses(1, "line(199, 200, 200)");
        y.refuses(1, "line(2, 1, 0)");
        y.refuses(2, "line(200, 199, 199)");
        y.refuses(2, "line(-1, 1, 0)");
    }

    static void promise21_line_motherAheadOfFather(Run y) {
        y.does("thing(0); thing(3)");
        y.refuses(1, "line(0, 199, 200)");
        y.refuses(2, "line(0, 200, 199)");
        y.refuses(1, "line(0, 2, 0)");
        y.refuses(3, "line(0, 1, 200)");
        y.refuses(3, "line(0, 1, 199)");
    }

    static void promise21_line_fatherAheadOf6And7(Run y) {
        y.does("thing(0); thing(3); thing(3)");
        y.refuses(2, "line(1, 0, 200)");
        y.refuses(1, "line(0, 0, 199)");
        y.refuses(3, "line(1, 0, 0)");
        y.refuses(3, "line(0, 0, 0)");
        y.refuses(3, "line(1, 2, 2)");
    }

    static void promise21_line_6OfADroneAheadOf7(Run y) {
        y.does("thing(0); thing(3); thing(3); line(0, -1, 1)");
        y.refuses(6, "line(1, -1, 1)");
        y.refuses(6, "line(1, 0, 2)");
        y.refuses(7, "line(1, 0, -1)");
    }

    static void promise21_line_7AheadOf6OfDepth(Run y) {
        lineDownTo(y, 15);
        y.does("thing(3); line(16, 14, -1)");
        y.refuses(7, "line(1, 15, -1)");
        y.refuses(7, "line(15, 15, -1)");
        y.refuses(7, "line(0, -1, 16)");
    }

    // ---- 22 kin, and section 4

    static void promise22_kin_things(Run y) {
        y.refuses(1, "kin(0, 0)");
        y.does("thing(0); thing(3)");
        y.refusesThings("kin(#, 0)", 2);
        y.refusesThings("kin(0, #)", 2);
        y.refuses(2, "kin(-1, 0)");
        y.refuses(2, "kin(0, -1)");
        y.gives(0, "kin(0, 1)");
    }

    static void promise22_kin_firstAheadOfSecond(Run y) {
        y.does("thing(0)");
        y.refuses(2, "kin(200, 199)");
        y.refuses(1, "kin(199, 200)");
        y.refuses(1, "kin(1, -1)");
        y.refuses(2, "kin(-1, 1)");
    }

    static void promise22_kin_wholeOfTheSame(Run y) {
        Yards.oneOfEachKind(y, 60);
        y.does("line(0, 1, 3)");
        for (int t = 0; t < 6; t++) {
            y.gives(WHOLE, "kin(" + t + ", " + t + ")");
        }
    }

    static void promise22_kin_nothingOfOneThatIsNotKnown(Run y) {
        y.does("thing(0); thing(0); thing(3)");
        y.gives(0, "kin(0, 1)");
        y.does("line(1, 0, -1)");
        y.gives(WHOLE / 2, "kin(0, 1)");
        y.gives(0, "kin(2, 1)");
        y.does("line(1, -1, 2)");
        y.gives(0, "kin(0, 1)");
        y.gives(WHOLE / 2, "kin(2, 1)");
        y.does("line(1, -1, -1)");
        y.gives(0, "kin(2, 1)");
    }

    static void promise22_kin_ofLikeDepth(Run y) {
        y.does("thing(0); thing(3); thing(0); thing(0); line(2, 0, 1); line(3, 0, -1)");
        y.gives(WHOLE / 4, "kin(2, 3)");
        y.gives(WHOLE / 4, "kin(3, 2)");
        y.does("line(3, 0, 1)");
        y.gives(WHOLE / 2, "kin(2, 3)");
        y.gives(WHOLE / 2, "kin(3, 2)");
    }

    /** The one with the greater DEPTH is looked at, even if it has the lesser number. */
    static void promise22_kin_byDepthNotByNumber(Run y) {
        y.does("thing(0); thing(0); thing(0); line(0, 1, -1); line(1, 2, -1)");
        y.gives(WHOLE / 4, "kin(0, 2)");
        y.gives(WHOLE / 4, "kin(2, 0)");
        y.gives(WHOLE / 2, "kin(0, 1)");
        y.gives(WHOLE / 2, "kin(2, 1)");
    }

    static void promise22_kin_parentsThatAreKinThemselves(Run y) {
        y.does("thing(0); thing(0); thing(3); thing(0); line(1, 0, -1); line(2, 0, -1); line(3, 1, 2)");
        y.gives(WHOLE / 2, "kin(3, 0)");
        y.gives(WHOLE / 2 + WHOLE / 8, "kin(3, 1)");
        y.gives(WHOLE / 2 + WHOLE / 8, "kin(2, 3)");
    }

    /** Two lines of 15 from one: 30 halves are one part, the last that can be told. */
    static void promise22_kin_onePartAt15And15(Run y) {
        y.does(31, "thing(0)");
        for (int i = 1; i <= 15; i++) {
            y.does("line(" + i + ", " + (i - 1) + ", -1)");
            y.does("line(" + (15 + i) + ", " + (i == 1 ? 0 : 14 + i) + ", -1)");
        }
        y.gives(1, "kin(15, 30)");
        y.gives(1, "kin(30, 15)");
        y.gives(2, "kin(14, 30)");
        y.gives(2, "kin(29, 15)");
        y.gives(1 << 15, "kin(0, 15)");
        y.gives(WHOLE / 2, "kin(14, 15)");
    }

    /** 15 generations of a Queen and a Drone who are mother's daughter and son: every THING has ways to all above it. */
    static void promise22_kin_manyWays(Run y) {
        y.does("thing(0); thing(3)");
        double[][] kin = new double[32][32];
        kin[0][0] = 1;
        kin[1][1] = 1;
        for (int level = 1; level <= 15; level++) {
            int queen = 2 * level;
            int mother = queen - 2;
            int father = queen - 1;
            y.does("thing(0); thing(3); line(" + queen + ", " + mother + ", " + father + "); line(" + (queen + 1) + ", " + mother
                + ", -1)");
            for (int t = 0; t < queen; t++) {
                kin[queen][t] = (kin[mother][t] + kin[father][t]) / 2;
                kin[t][queen] = kin[queen][t];
            }
            kin[queen][queen] = 1;
            for (int t = 0; t <= queen; t++) {
                kin[queen + 1][t] = kin[mother][t] / 2;
                kin[t][queen + 1] = kin[queen + 1][t];
            }
            kin[queen + 1][queen + 1] = 1;
        }
        for (int t = 0; t < 32; t++) {
            y.gives((int) (kin[30][t] * WHOLE), "kin(30, " + t + ")");
            y.gives((int) (kin[31][t] * WHOLE), "kin(" + t + ", 31)");
        }
    }

    static void promise22_kin_among200(Run y) {
        y.does(200, "thing(0)");
        for (int t = 0; t < 100; t++) {
            int child = 100 + t;
            y.does("line(" + child + ", " + (t == 0 ? 0 : child % 7 == 0 ? 0 : t / 7) + ", -1)");
        }
        y.gives(0, "kin(99, 199)");
        y.gives(WHOLE / 2, "kin(14, 199)");
        y.gives(WHOLE / 4, "kin(198, 199)");
    }

    /** All 200 are one family: each Queen has a MOTHER and a FATHER, each Drone a MOTHER, as long as there are THINGS. */
    static void promise22_kin_ofAFamilyOf200(Run y) {
        int[] generation = new int[200];
        boolean[] drone = new boolean[200];
        y.does("thing(0)");
        int made = 1;
        for (int t = 0; made < 200; t++) {
            int mother = made;
            int father = drone[t] || mother + 1 == 200 ? -1 : mother + 1;
            y.does("thing(0)");
            generation[mother] = generation[t] + 1;
            if (father != -1) {
                y.does("thing(3)");
                drone[father] = true;
                generation[father] = generation[t] + 1;
            }
            made = father == -1 ? mother + 1 : father + 1;
            y.does("line(" + t + ", " + mother + ", " + father + ")");
        }
        y.gives(generation[199], "ask(0, 10)");
        for (int t = 0; t < 200; t += 7) {
            y.gives(WHOLE >> generation[t], "kin(0, " + t + ")");
        }
        y.gives(WHOLE >> generation[199], "kin(199, 0)");
        y.gives(0, "kin(198, 199)");
    }

    static void promise22_kin_asOftenAsOneAsks(Run y) {
        y.does("thing(0); thing(3); thing(0); thing(0); line(2, 0, 1); line(3, 0, -1)");
        for (int i = 0; i < 160; i++) {
            y.hold("kin(2, 3)", y.answer("kin(2, 3)"), WHOLE / 4);
            y.hold("kin(3, 1)", y.answer("kin(3, 1)"), 0);
            y.hold("kin(0, 2)", y.answer("kin(0, 2)"), WHOLE / 2);
        }
        y.does("thing(0); line(4, 3, -1)");
        y.gives(WHOLE / 2, "kin(4, 3)");
        y.gives(WHOLE / 4, "kin(0, 4)");
    }

    // ---- 23 ask

    static void promise23_ask_things(Run y) {
        y.refuses(1, "ask(0, 0)");
        y.does("thing(3); thing(2)");
        y.refusesThings("ask(#, 0)", 2);
        y.refuses(2, "ask(-1, 0)");
        y.gives(3, "ask(0, 0)");
        y.gives(2, "ask(1, 0)");
    }

    static void promise23_ask_thing199(Run y) {
        y.does(199, "thing(0)");
        y.refuses(1, "ask(199, 0)");
        y.does("thing(2)");
        y.gives(2, "ask(199, 0)");
        y.refuses(2, "ask(200, 0)");
    }

    static void promise23_ask_what0To14(Run y) {
        y.does("thing(2)");
        int[] due = {2, 0, 1000, 0, 5, 0, 0, 1, -1, -1, 0, 0, -1, -1, -1};
        y.refuses(6, "ask(0, MIN)");
        y.refuses(6, "ask(0, -1)");
        for (int what = 0; what <= 14; what++) {
            y.gives(due[what], "ask(0, " + what + ")");
        }
        y.refuses(6, "ask(0, 15)");
        y.refuses(6, "ask(0, MAX)");
    }

    static void promise23_ask_laysOfQueensAlone(Run y) {
        Yards.oneOfEachKind(y, 60);
        for (int t = 0; t <= 2; t++) {
            y.gives(t == 1 ? 0 : 5, "ask(" + t + ", 4)");
            y.gives(t == 1 ? 0 : 1, "ask(" + t + ", 7)");
        }
        for (int t = 3; t <= 5; t++) {
            y.refuses(3, "ask(" + t + ", 4)");
            y.refuses(3, "ask(" + t + ", 7)");
        }
    }

    static void promise23_ask_rateAndSireOfMatedAlone(Run y) {
        Yards.oneOfEachKind(y, 60);
        y.gives(0, "ask(2, 11)");
        y.gives(-1, "ask(2, 12)");
        for (int t : new int[] {0, 1, 3, 4, 5}) {
            y.refuses(3, "ask(" + t + ", 11)");
            y.refuses(3, "ask(" + t + ", 12)");
        }
    }

    static void promise23_ask_theRestOfAllKinds(Run y) {
        Yards.oneOfEachKind(y, 60);
        for (int t = 0; t < 6; t++) {
            for (int what : new int[] {0, 1, 8, 9, 10, 13, 14}) {
                y.gives(what == 0 ? t : what == 1 || what == 10 ? 0 : -1, "ask(" + t + ", " + what + ")");
            }
        }
        y.gives(30, "ask(4, 3)");
        y.gives(10, "ask(5, 3)");
    }

    static void promise23_ask_statusesInOrder(Run y) {
        Yards.oneOfEachKind(y, 60);
        y.refuses(2, "ask(200, 15)");
        y.refuses(2, "ask(-1, -1)");
        y.refuses(1, "ask(6, 15)");
        y.refuses(1, "ask(199, 4)");
        y.refuses(6, "ask(3, 15)");
        y.refuses(6, "ask(0, 15)");
    }

    static void promise23_ask_slotOfHives0And39(Run y) {
        y.does(40, "hive(0)");
        y.does("thing(0); thing(3); slot(0, 1); slot(39, 0)");
        y.gives(39, "ask(0, 13)");
        y.gives(0, "ask(1, 13)");
        y.does("slot(0, -1)");
        y.gives(-1, "ask(1, 13)");
    }

    static void promise23_ask_insideSwarm199(Run y) {
        y.does(199, "thing(0)");
        y.does("hive(0); slot(0, 0)");
        y.gives(-1, "ask(0, 14)");
        y.does("swarm(0, 4)");
        y.gives(199, "ask(0, 14)");
        y.gives(-1, "ask(0, 13)");
        y.gives(-1, "ask(198, 14)");
        y.gives(-1, "ask(199, 14)");
    }

    // ---- 24 slot

    static void promise24_slot_hiveNumbers(Run y) {
        y.does("hive(0); hive(0); thing(0)");
        y.refusesHives("slot(#, 0)", 2);
        y.refusesHives("slot(#, -1)", 2);
        y.gives(-1, "slot(1, 0)");
    }

    static void promise24_slot_things(Run y) {
        y.does("hive(0); thing(3)");
        y.refusesThings("slot(0, #)", 1);
        y.gives(-1, "slot(0, 0)");
        y.gives(0, "slot(0, -1)");
        y.gives(-1, "slot(0, -1)");
    }

    static void promise24_slot_hive39AndThing199(Run y) {
        y.does(40, "hive(0)");
        y.does(200, "thing(0)");
        y.gives(-1, "slot(39, 199)");
        y.gives(39, "ask(199, 13)");
        y.refuses(2, "slot(40, 198)");
        y.refuses(2, "slot(39, 200)");
        y.gives(199, "slot(39, 198)");
    }

    static void promise24_slot_whatWasThereIsInNone(Run y) {
        y.does("hive(0); hive(0); thing(0); thing(1)");
        y.gives(-1, "slot(0, 0)");
        y.gives(0, "slot(0, 1)");
        y.gives(-1, "ask(0, 13)");
        y.gives(0, "ask(1, 13)");
        y.gives(-1, "slot(1, 0)");
        y.gives(1, "ask(0, 13)");
        y.gives(1, "slot(0, -1)");
        y.gives(-1, "ask(1, 13)");
    }

    static void promise24_slot_notOneThatIsInASlot(Run y) {
        y.does("hive(0); hive(0); thing(0); thing(1); slot(0, 0); slot(1, 1)");
        y.refuses(6, "slot(1, 0)");
        y.refuses(6, "slot(0, 1)");
        y.refuses(6, "slot(0, 0)");
        y.does("slot(0, -1)");
        y.gives(1, "slot(1, 0)");
    }

    static void promise24_slot_notOneThatIsInside(Run y) {
        y.does("hive(10); hive(0); thing(0); slot(0, 0); swarm(0, 4)");
        y.refuses(6, "slot(0, 0)");
        y.refuses(6, "slot(1, 0)");
        y.gives(-1, "slot(0, 1)");
        y.does("settle(1, 0)");
        y.gives(-1, "slot(1, 0)");
    }

    static void promise24_slot_ofAnyKind(Run y) {
        Yards.oneOfEachKind(y, 60);
        for (int t = 0; t < 6; t++) {
            y.gives(t - 1, "slot(0, " + t + ")");
        }
    }

    static void promise24_slot_hiveAheadOfThingAheadOf6(Run y) {
        y.does("hive(0); thing(0); slot(0, 0)");
        y.refuses(2, "slot(40, 199)");
        y.refuses(2, "slot(-1, 0)");
        y.refuses(1, "slot(39, 200)");
        y.refuses(1, "slot(1, 0)");
        y.refuses(2, "slot(0, -2)");
        y.refuses(1, "slot(0, 1)");
        y.refuses(6, "slot(0, 0)");
    }

    // ---- 25 lay

    static void promise25_lay_things(Run y) {
        y.does("thing(2); thing(2)");
        y.refusesThings("lay(#, 5)", 2);
        y.refuses(2, "lay(-1, 5)");
        y.gives(0, "lay(1, 5)");
        y.gives(0, "ask(0, 11)");
    }

    static void promise25_lay_thing199(Run y) {
        y.does(199, "thing(2)");
        y.refuses(1, "lay(199, 5)");
        y.does("thing(2)");
        y.gives(0, "lay(199, 5)");
        y.gives(5, "ask(199, 11)");
        y.refuses(2, "lay(200, 5)");
    }

    static void promise25_lay_matedAlone(Run y) {
        Yards.oneOfEachKind(y, 60);
        for (int t : new int[] {0, 1, 3, 4, 5}) {
            y.refuses(3, "lay(" + t + ", 5)");
        }
        y.gives(0, "lay(2, 5)");
        y.does("mate(1, 3)");
        y.gives(0, "lay(1, 7)");
    }

    static void promise25_lay_rate0To200(Run y) {
        y.does("thing(2)");
        y.refuses(6, "lay(0, MIN)");
        y.refuses(6, "lay(0, -1)");
        y.gives(0, "lay(0, 1)");
        y.gives(1, "lay(0, 200)");
        y.refuses(6, "lay(0, 201)");
        y.refuses(6, "lay(0, MAX)");
        y.gives(200, "lay(0, 0)");
        y.gives(0, "lay(0, 0)");
    }

    static void promise25_lay_statusesInOrder(Run y) {
        Yards.oneOfEachKind(y, 60);
        y.refuses(2, "lay(200, 201)");
        y.refuses(1, "lay(6, -1)");
        y.refuses(3, "lay(0, 201)");
        y.refuses(3, "lay(3, -1)");
        y.refuses(6, "lay(2, 201)");
    }

    // ---- 26 mate

    static void promise26_mate_virgins(Run y) {
        Yards.oneOfEachKind(y, 60);
        y.refusesThings("mate(#, 3)", 6);
        y.refuses(2, "mate(-1, 3)");
        for (int t : new int[] {0, 2, 3, 4, 5}) {
            y.refuses(3, "mate(" + t + ", 3)");
        }
        y.gives(1, "mate(1, 3)");
        y.refuses(3, "mate(1, 3)");
    }

    static void promise26_mate_thing199(Run y) {
        y.does(199, "thing(1)");
        y.refuses(1, "mate(0, 199)");
        y.refuses(1, "mate(199, 0)");
        y.does("thing(3)");
        y.gives(1, "mate(198, 199)");
        y.gives(199, "ask(198, 12)");
        y.refuses(2, "mate(200, 199)");
        y.refuses(2, "mate(0, 200)");
        y.anew();
        y.does(199, "thing(3)");
        y.does("thing(1)");
        y.gives(1, "mate(199, 0)");
        y.gives(2, "ask(199, 0)");
    }

    static void promise26_mate_drones(Run y) {
        Yards.oneOfEachKind(y, 60);
        y.refusesThings("mate(1, #)", 6);
        y.refuses(2, "mate(1, -1)");
        for (int t : new int[] {0, 1, 2, 4, 5}) {
            y.refuses(3, "mate(1, " + t + ")");
        }
        y.gives(1, "mate(1, 3)");
    }

    static void promise26_mate_statusesInOrder(Run y) {
        Yards.oneOfEachKind(y, 60);
        y.refuses(2, "mate(200, 199)");
        y.refuses(1, "mate(199, 200)");
        y.refuses(1, "mate(6, 0)");
        y.refuses(3, "mate(0, 200)");
        y.refuses(3, "mate(0, 199)");
        y.refuses(3, "mate(3, 0)");
        y.refuses(2, "mate(1, 200)");
        y.refuses(1, "mate(1, 199)");
    }

    static void promise26_mate_allElseStays(Run y) {
        y.does("hive(0); thing(0); thing(3); thing(1); line(2, 0, 1); slot(0, 2); day(16)");
        y.gives(-5, "ask(2, 4)");
        y.gives(1, "mate(2, 1)");
        int[] due = {2, 32, 1032, 0, 5, 0, 0, 1, 0, 1, 1, 0, 1, 0, -1};
        for (int what = 0; what <= 14; what++) {
            y.gives(due[what], "ask(2, " + what + ")");
        }
        y.gives(16, "ask(1, 1)");
    }

    static void promise26_mate_insideASwarm(Run y) {
        y.does("hive(9); thing(1); thing(3); slot(0, 0); swarm(0, 4)");
        y.gives(1, "mate(0, 1)");
        y.gives(2, "ask(0, 14)");
        y.gives(-1, "ask(0, 13)");
    }

    // ---- 28 swarm

    static void promise28_swarm_hiveNumbers(Run y) {
        y.does("hive(10); hive(20)");
        y.refusesHives("swarm(#, 4)", 2);
        y.refusesHives("swarm(#, 5)", 2);
        y.gives(0, "swarm(1, 4)");
    }

    static void promise28_swarm_hiveNumber39(Run y) {
        y.does(40, "hive(10)");
        y.gives(0, "swarm(39, 4)");
        y.gives(5, "inspect(39, 0)");
    }

    static void promise28_swarm_kinds4And5(Run y) {
        y.does("hive(60)");
        for (String kind : new String[] {"MIN", "-1", "0", "3", "6", "MAX"}) {
            y.refuses(6, "swarm(0, " + kind + ")");
        }
        y.gives(0, "swarm(0, 4)");
        y.gives(1, "swarm(0, 5)");
        y.gives(4, "ask(0, 0)");
        y.gives(5, "ask(1, 0)");
    }

    static void promise28_swarm_halfRoundedDown(Run y) {
        int[] bees = {0, 1, 2, 3, 20000};
        for (int h = 0; h < bees.length; h++) {
            y.does("hive(" + bees[h] + ")");
            y.gives(h, "swarm(" + h + ", 4)");
            y.gives(bees[h] / 2, "ask(" + h + ", 3)");
            y.gives(bees[h] - bees[h] / 2, "inspect(" + h + ", 0)");
        }
    }

    static void promise28_swarm_thirdRoundedDown(Run y) {
        int[] bees = {0, 1, 2, 3, 5, 6, 2999};
        for (int h = 0; h < bees.length; h++) {
            y.does("hive(" + bees[h] + ")");
            y.gives(h, "swarm(" + h + ", 5)");
            y.gives(bees[h] / 3, "ask(" + h + ", 3)");
            y.gives(bees[h] - bees[h] / 3, "inspect(" + h + ", 0)");
        }
    }

    static void promise28_swarm_theSlotIsEmptiedWith4Alone(Run y) {
        y.does("hive(60); thing(0); slot(0, 0)");
        y.gives(1, "swarm(0, 5)");
        y.gives(0, "ask(0, 13)");
        y.gives(-1, "ask(0, 14)");
        y.gives(2, "swarm(0, 4)");
        y.gives(-1, "ask(0, 13)");
        y.gives(2, "ask(0, 14)");
        y.gives(3, "swarm(0, 4)");
        y.gives(2, "ask(0, 14)");
        y.gives(-1, "slot(0, -1)");
    }

    static void promise28_swarm_200ThingsAtMost(Run y) {
        y.does("hive(100)");
        y.does(199, "thing(0)");
        y.does("slot(0, 0)");
        y.gives(199, "swarm(0, 4)");
        y.refuses(6, "swarm(0, 4)");
        y.refuses(6, "swarm(0, 5)");
        y.refuses(6, "swarm(0, 6)");
        y.gives(50, "inspect(0, 0)");
        y.refuses(1, "swarm(1, 4)");
        y.refuses(2, "swarm(40, 4)");
    }

    static void promise28_swarm_hiveAheadOf6(Run y) {
        y.does("hive(0)");
        y.refuses(2, "swarm(40, 3)");
        y.refuses(2, "swarm(-1, 6)");
        y.refuses(1, "swarm(1, 3)");
        y.refuses(1, "swarm(39, 6)");
        y.refuses(6, "swarm(0, 6)");
    }

    // ---- 29 settle

    static void promise29_settle_things(Run y) {
        Yards.oneOfEachKind(y, 60);
        y.refusesThings("settle(#, 0)", 6);
        y.refuses(2, "settle(-1, 0)");
        for (int t = 0; t <= 3; t++) {
            y.refuses(3, "settle(" + t + ", 0)");
        }
        y.gives(30, "settle(4, 0)");
        y.gives(10, "settle(5, 0)");
    }

    static void promise29_settle_hiveNumbers(Run y) {
        y.does("hive(60); hive(0); swarm(0, 4)");
        y.refusesHives("settle(0, #)", 2);
        y.gives(30, "settle(0, 1)");
    }

    static void promise29_settle_thing199AndHive39(Run y) {
        y.does(40, "hive(60)");
        y.does(199, "thing(0)");
        y.does("swarm(0, 4)");
        y.gives(30, "settle(199, 39)");
        y.gives(90, "inspect(39, 0)");
    }

    static void promise29_settle_statusesInOrder(Run y) {
        Yards.oneOfEachKind(y, 60);
        y.refuses(2, "settle(200, 39)");
        y.refuses(1, "settle(199, 40)");
        y.refuses(1, "settle(6, 40)");
        y.refuses(3, "settle(3, 40)");
        y.refuses(3, "settle(0, 39)");
        y.refuses(2, "settle(4, 40)");
        y.refuses(1, "settle(4, 1)");
    }

    static void promise29_settle_loadIs0Then(Run y) {
        y.does("hive(61); hive(0); swarm(0, 4)");
        y.gives(30, "settle(0, 1)");
        y.gives(30, "inspect(1, 0)");
        y.gives(0, "ask(0, 3)");
        y.gives(0, "settle(0, 1)");
        y.gives(30, "inspect(1, 0)");
    }

    static void promise29_settle_ofANucleus1000AtMost(Run y) {
        int[] bees = {2997, 3000, 3003, 20000};
        int[] come = {999, 1000, 1000, 1000};
        for (int i = 0; i < bees.length; i++) {
            y.anew();
            y.does("hive(" + bees[i] + "); hive(0); swarm(0, 5)");
            y.gives(come[i], "settle(0, 1)");
            y.gives(come[i], "inspect(1, 0)");
            y.gives(0, "ask(0, 3)");
            y.gives(0, "settle(0, 1)");
            y.gives(bees[i] - bees[i] / 3, "inspect(0, 0)");
        }
    }

    static void promise29_settle_insideComesIntoAnEmptySlot(Run y) {
        y.does("hive(60); hive(0); thing(0); slot(0, 0); swarm(0, 4)");
        y.gives(30, "settle(1, 1)");
        y.gives(1, "ask(0, 13)");
        y.gives(-1, "ask(0, 14)");
        y.gives(0, "slot(1, -1)");
        y.gives(0, "settle(1, 0)");
        y.gives(-1, "ask(0, 13)");
    }

    static void promise29_settle_insideIsInNoneIfTheSlotHasOne(Run y) {
        y.does("hive(60); hive(0); thing(0); thing(1); slot(0, 0); slot(1, 1); swarm(0, 4)");
        y.gives(30, "settle(2, 1)");
        y.gives(-1, "ask(0, 13)");
        y.gives(-1, "ask(0, 14)");
        y.gives(1, "ask(1, 13)");
        y.gives(-1, "slot(0, 0)");
    }

    static void promise29_settle_nothingInside(Run y) {
        y.does("hive(60); hive(0); thing(0); slot(1, 0); swarm(0, 4); swarm(0, 5)");
        y.gives(30, "settle(1, 1)");
        y.gives(1, "ask(0, 13)");
        y.gives(10, "settle(2, 0)");
        y.gives(-1, "slot(0, -1)");
    }

    /** A Swarm that is itself in the SLOT: so that SLOT has something. */
    static void promise29_settle_whereTheSwarmItselfIsInTheSlot(Run y) {
        y.does("hive(60); thing(0); slot(0, 0); swarm(0, 4); slot(0, 1)");
        y.gives(30, "settle(1, 0)");
        y.gives(0, "ask(1, 13)");
        y.gives(-1, "ask(0, 13)");
        y.gives(-1, "ask(0, 14)");
    }

    static void promise29_settle_runsCarriesIfNotRefused(Run y) {
        y.does("hive(60); thing(0); swarm(0, 4); swarm(0, 5)");
        y.runs("settle(1, 0)", 10);
        y.runs("settle(2, 0)", 12, 10);
        y.runs("settle(1, 1)");
        y.runs("settle(2, 40)");
        y.runs("settle(0, 0)");
    }
}
