import java.util.Random;

/** Promises 30 to 38, and the terms' section 5: a test for each sentence that names a boundary. */
public final class MiteEdgesTest {
    private MiteEdgesTest() {
    }

    public static void main(String[] args) throws IllegalAccessException {
        Edges.run(MiteEdgesTest.class);
    }

    private static void parts(Run y, int... due) {
        for (int i = 0; i < due.length; i++) {
            y.gives(due[i], "shared(" + i + ")");
        }
        y.refuses(2, "shared(" + due.length + ")");
    }

    private static void order(Run y, int... due) {
        for (int i = 0; i < due.length; i++) {
            y.gives(due[i], "chosen(" + i + ")");
        }
        y.refuses(2, "chosen(" + due.length + ")");
    }

    // ---- 30 share

    static void promise30_share_hiveNumbers(Run y) {
        y.does("hive(10); hive(20)");
        y.refusesHives("share(#, 1)", 2);
        y.gives(20, "share(1, 1)");
    }

    static void promise30_share_hiveNumber39(Run y) {
        y.does(39, "hive(0)");
        y.refuses(1, "share(39, 2)");
        y.does("hive(9)");
        y.gives(4, "share(39, 2)");
        y.refuses(2, "share(40, 2)");
    }

    static void promise30_share_among1To100(Run y) {
        y.does("hive(1000)");
        y.refuses(5, "share(0, MIN)");
        y.refuses(5, "share(0, -1)");
        y.refuses(4, "share(0, 0)");
        y.gives(1000, "share(0, 1)");
        y.gives(500, "share(0, 2)");
        y.gives(10, "share(0, 99)");
        y.gives(10, "share(0, 100)");
        y.refuses(6, "share(0, 101)");
        y.refuses(6, "share(0, MAX)");
    }

    static void promise30_share_asLikeAsCanBeTheGreaterFirst(Run y) {
        y.does("hive(11); hive(12); hive(13); hive(15); hive(16)");
        y.gives(2, "share(0, 4)");
        parts(y, 3, 3, 3, 2);
        y.gives(3, "share(1, 4)");
        parts(y, 3, 3, 3, 3);
        y.gives(3, "share(2, 4)");
        parts(y, 4, 3, 3, 3);
        y.gives(3, "share(3, 4)");
        parts(y, 4, 4, 4, 3);
        y.gives(4, "share(4, 4)");
        parts(y, 4, 4, 4, 4);
    }

    static void promise30_share_lessBeesThanParts(Run y) {
        y.does("hive(0); hive(1); hive(2); hive(3)");
        y.gives(0, "share(0, 3)");
        parts(y, 0, 0, 0);
        y.gives(0, "share(1, 3)");
        parts(y, 1, 0, 0);
        y.gives(0, "share(2, 3)");
        parts(y, 1, 1, 0);
        y.gives(1, "share(3, 3)");
        parts(y, 1, 1, 1);
    }

    static void promise30_share_ofAllThereAreAmong100(Run y) {
        y.does("hive(20000); hive(19999)");
        y.gives(200, "share(0, 100)");
        y.gives(200, "shared(99)");
        y.gives(199, "share(1, 100)");
        y.gives(200, "shared(98)");
        y.gives(199, "shared(99)");
    }

    static void promise30_share_inPlaceOfTheOneBefore(Run y) {
        y.does("hive(10); share(0, 5); share(0, 2)");
        parts(y, 5, 5);
        y.does("share(0, 3)");
        parts(y, 4, 3, 3);
        y.refuses(4, "share(0, 0)");
        y.refuses(6, "share(0, 101)");
        y.refuses(5, "share(0, -1)");
        y.refuses(1, "share(1, 1)");
        parts(y, 4, 3, 3);
    }

    static void promise30_share_hiveAheadOf6And5And4(Run y) {
        y.does("hive(10)");
        y.refuses(2, "share(40, 101)");
        y.refuses(2, "share(-1, -1)");
        y.refuses(2, "share(-1, 0)");
        y.refuses(1, "share(1, 101)");
        y.refuses(1, "share(1, -1)");
        y.refuses(1, "share(1, 0)");
    }

    static void promise30_share_isNoChange(Run y) {
        y.does("hive(10); hive(9)");
        y.isNoChange("share(0, 3)");
    }

    // ---- 31 shared

    static void promise31_shared_noneYet(Run y) {
        y.refuses(1, "shared(0)");
        y.refuses(1, "shared(-1)");
        y.refuses(1, "shared(100)");
        y.does("hive(10)");
        y.refuses(4, "share(0, 0)");
        y.refuses(1, "shared(0)");
        y.does("share(0, 1)");
        y.gives(10, "shared(0)");
        y.refuses(2, "shared(1)");
    }

    static void promise31_shared_parts0ToLast(Run y) {
        y.does("hive(250); share(0, 100)");
        y.refuses(2, "shared(MIN)");
        y.refuses(2, "shared(-1)");
        y.gives(3, "shared(0)");
        y.gives(3, "shared(49)");
        y.gives(2, "shared(50)");
        y.gives(2, "shared(99)");
        y.refuses(2, "shared(100)");
        y.refuses(2, "shared(MAX)");
    }

    static void promise31_shared_theRowStaysWhenBeesChange(Run y) {
        y.does("hive(10); share(0, 2); hive(9); join(0, 1)");
        parts(y, 5, 5);
        y.does("undo()");
        parts(y, 5, 5);
    }

    // ---- 32 sample

    static void promise32_sample_hiveNumbers(Run y) {
        y.does("hive(0); hive(0)");
        y.refusesHives("sample(#, 1, 1)", 2);
        y.gives(1, "sample(1, 1, 1)");
    }

    static void promise32_sample_hiveNumber39(Run y) {
        y.does(40, "hive(0)");
        y.gives(1, "sample(39, 1, 2)");
        y.gives(2, "mites(39, 1)");
    }

    static void promise32_sample_mites0To10000(Run y) {
        y.does("hive(0)");
        y.refuses(6, "sample(0, MIN, 1)");
        y.refuses(6, "sample(0, -1, 1)");
        y.gives(1, "sample(0, 0, 1)");
        y.gives(2, "sample(0, 10000, 1)");
        y.refuses(6, "sample(0, 10001, 1)");
        y.refuses(6, "sample(0, MAX, 1)");
        y.gives(10000, "mites(0, 0)");
        y.gives(2, "mites(0, 1)");
    }

    static void promise32_sample_bees1To10000(Run y) {
        y.does("hive(0)");
        y.refuses(6, "sample(0, 1, MIN)");
        y.refuses(6, "sample(0, 1, -1)");
        y.refuses(4, "sample(0, 1, 0)");
        y.gives(1, "sample(0, 1, 1)");
        y.gives(2, "sample(0, 1, 10000)");
        y.refuses(6, "sample(0, 1, 10001)");
        y.refuses(6, "sample(0, 1, MAX)");
        y.gives(10001, "mites(0, 1)");
        y.gives(2, "mites(0, 0)");
    }

    static void promise32_sample_statusesInOrder(Run y) {
        y.does("hive(0)");
        y.refuses(2, "sample(40, -1, 0)");
        y.refuses(1, "sample(1, 10001, 1)");
        y.refuses(1, "sample(1, 1, 0)");
        y.refuses(2, "sample(-1, 1, 0)");
        y.refuses(6, "sample(0, -1, 0)");
        y.refuses(6, "sample(0, 10001, 0)");
        y.refuses(4, "sample(0, 0, 0)");
        y.refuses(4, "sample(0, 10000, 0)");
    }

    // ---- 33 mites

    static void promise33_mites_hiveNumbers(Run y) {
        y.does("hive(0); hive(0)");
        y.refusesHives("mites(#, 0)", 2);
        y.gives(0, "mites(1, 0)");
    }

    static void promise33_mites_hiveNumber39(Run y) {
        y.does(40, "hive(0)");
        y.does("sample(39, 4, 6)");
        y.gives(2, "mites(39, 2)");
        y.refusesHives("mites(#, 2)", 40);
    }

    static void promise33_mites_what0To3(Run y) {
        y.does("hive(0); sample(0, 6, 4)");
        y.refuses(6, "mites(0, MIN)");
        y.refuses(6, "mites(0, -1)");
        y.gives(6, "mites(0, 0)");
        y.gives(4, "mites(0, 1)");
        y.gives(3, "mites(0, 2)");
        y.gives(2, "mites(0, 3)");
        y.refuses(6, "mites(0, 4)");
        y.refuses(6, "mites(0, MAX)");
    }

    static void promise33_mites_sharesNeedWashed(Run y) {
        y.does("hive(0)");
        y.gives(0, "mites(0, 0)");
        y.gives(0, "mites(0, 1)");
        y.refuses(4, "mites(0, 2)");
        y.refuses(4, "mites(0, 3)");
        y.does("sample(0, 0, 1)");
        y.gives(0, "mites(0, 2)");
        y.gives(1, "mites(0, 3)");
        y.does("treat(0)");
        y.refuses(4, "mites(0, 2)");
        y.refuses(4, "mites(0, 3)");
    }

    static void promise33_mites_statusesInOrder(Run y) {
        y.does("hive(0)");
        y.refuses(2, "mites(40, 4)");
        y.refuses(1, "mites(1, 4)");
        y.refuses(1, "mites(1, 2)");
        y.refuses(6, "mites(0, 4)");
        y.refuses(6, "mites(0, -1)");
    }

    static void promise33_mites_withoutACommonDivisor(Run y) {
        int[][] samples = {{0, 77}, {77, 77}, {1, 10000}, {10000, 1}, {10000, 10000}, {9999, 10000}, {4181, 6765}, {6765, 4181},
            {9973, 9967}, {84, 36}, {36, 84}, {1, 1}, {2, 4096}, {8192, 2}};
        int[][] due = {{0, 1}, {1, 1}, {1, 10000}, {10000, 1}, {1, 1}, {9999, 10000}, {4181, 6765}, {6765, 4181}, {9973, 9967},
            {7, 3}, {3, 7}, {1, 1}, {1, 2048}, {4096, 1}};
        for (int h = 0; h < samples.length; h++) {
            y.does("hive(0); sample(" + h + ", " + samples[h][0] + ", " + samples[h][1] + ")");
            y.gives(due[h][0], "mites(" + h + ", 2)");
            y.gives(due[h][1], "mites(" + h + ", 3)");
        }
    }

    // ---- 34 compare

    static void promise34_compare_hiveNumbers(Run y) {
        y.does("hive(0); hive(0); sample(0, 1, 1); sample(1, 1, 1)");
        y.refusesHives("compare(#, 0)", 2);
        y.refusesHives("compare(0, #)", 2);
        y.gives(1, "compare(0, 1)");
    }

    static void promise34_compare_hiveNumber39(Run y) {
        y.does(40, "hive(0)");
        y.does("sample(39, 1, 1); sample(0, 1, 2)");
        y.gives(2, "compare(39, 0)");
        y.gives(0, "compare(0, 39)");
        y.refusesHives("compare(39, #)", 40);
    }

    static void promise34_compare_lessLikeGreater(Run y) {
        y.does("hive(0); hive(0); hive(0); hive(0); sample(0, 3333, 9999); sample(1, 1, 3); sample(2, 3334, 9999); sample(3, 3333, 10000)");
        y.gives(1, "compare(0, 1)");
        y.gives(1, "compare(1, 0)");
        y.gives(0, "compare(1, 2)");
        y.gives(2, "compare(2, 1)");
        y.gives(2, "compare(1, 3)");
        y.gives(0, "compare(3, 1)");
        y.gives(1, "compare(3, 3)");
    }

    static void promise34_compare_withoutMites(Run y) {
        y.does("hive(0); hive(0); hive(0); sample(0, 0, 1); sample(1, 0, 10000); sample(2, 1, 10000)");
        y.gives(1, "compare(0, 1)");
        y.gives(0, "compare(0, 2)");
        y.gives(2, "compare(2, 1)");
    }

    static void promise34_compare_bothNeedWashed(Run y) {
        y.does("hive(0); hive(0)");
        y.refuses(4, "compare(0, 1)");
        y.refuses(4, "compare(0, 0)");
        y.does("sample(0, 1, 1)");
        y.refuses(4, "compare(0, 1)");
        y.refuses(4, "compare(1, 0)");
        y.gives(1, "compare(0, 0)");
        y.does("sample(1, 1, 1)");
        y.gives(1, "compare(0, 1)");
    }

    static void promise34_compare_statusesInOrder(Run y) {
        y.does("hive(0)");
        y.refuses(2, "compare(40, 39)");
        y.refuses(1, "compare(39, 40)");
        y.refuses(2, "compare(0, 40)");
        y.refuses(1, "compare(0, 1)");
        y.refuses(4, "compare(0, 0)");
    }

    /** Sums of two million: their products are far beyond an int. */
    static void promise34_compare_ofTheGreatestSums(Run y) {
        y.does("hive(0); hive(0)");
        for (int i = 0; i < 240; i++) {
            y.does("sample(0, 9999, 10000); sample(1, 9999, 10000)");
        }
        y.gives(1, "compare(0, 1)");
        y.does("sample(0, 1, 1)");
        y.gives(2, "compare(0, 1)");
        y.gives(0, "compare(1, 0)");
        y.gives(2399761, "mites(0, 2)");
        y.gives(2400001, "mites(0, 3)");
        y.gives(9999, "mites(1, 2)");
        y.gives(10000, "mites(1, 3)");
    }

    // ---- 35 treat

    static void promise35_treat_hiveNumbers(Run y) {
        y.does("hive(0); hive(0)");
        y.refusesHives("treat(#)", 2);
        y.gives(1, "treat(1)");
    }

    static void promise35_treat_hiveNumber39(Run y) {
        y.does(40, "hive(0)");
        y.does("sample(39, 1, 2)");
        y.gives(1, "treat(39)");
        y.gives(0, "mites(39, 1)");
    }

    static void promise35_treat_allThreeAre0(Run y) {
        y.does("hive(0); hive(0); sample(0, 3, 4); sample(0, 5, 6); sample(1, 7, 8)");
        y.gives(1, "treat(0)");
        y.gives(0, "mites(0, 0)");
        y.gives(0, "mites(0, 1)");
        y.gives(7, "mites(1, 0)");
        y.gives(1, "sample(0, 1, 1)");
        y.gives(2, "sample(1, 1, 1)");
    }

    static void promise35_treat_withoutWashings(Run y) {
        y.does("hive(0)");
        y.gives(1, "treat(0)");
        y.gives(1, "treat(0)");
        y.takesBack("treat(0)");
    }

    static void promise35_treat_leavesTheTreating(Run y) {
        y.does("hive(0); due(0, 3, 1); sample(0, 5, 1); treat(0)");
        y.refuses(4, "plan(0, 1)");
        y.does("sample(0, 1, 1)");
        y.gives(3, "plan(0, 1)");
    }

    // ---- 36 due

    static void promise36_due_hiveNumbers(Run y) {
        y.does("hive(0); hive(0)");
        y.refusesHives("due(#, 1, 1)", 2);
        y.refusesHives("due(#, 0, 0)", 2);
        y.gives(1, "due(1, 1, 1)");
    }

    static void promise36_due_hiveNumber39(Run y) {
        y.does(39, "hive(0)");
        y.refuses(1, "due(39, 1, 1)");
        y.does("hive(0)");
        y.gives(1, "due(39, 1, 1)");
        y.refusesHives("due(#, 1, 1)", 40);
    }

    static void promise36_due_days1To30(Run y) {
        y.does("hive(0); sample(0, 1, 1)");
        y.refuses(6, "due(0, MIN, 1)");
        y.refuses(6, "due(0, -1, 1)");
        y.refuses(6, "due(0, 0, 1)");
        y.gives(1, "due(0, 1, 1)");
        y.gives(1, "plan(0, 1)");
        y.gives(1, "due(0, 30, 1)");
        y.gives(30, "plan(0, 1)");
        y.refuses(6, "due(0, 31, 1)");
        y.refuses(6, "due(0, MAX, 1)");
        y.gives(30, "plan(0, 1)");
    }

    static void promise36_due_growth1To1000(Run y) {
        y.does("hive(0); sample(0, 0, 10000)");
        y.refuses(6, "due(0, 30, MIN)");
        y.refuses(6, "due(0, 30, -1)");
        y.refuses(6, "due(0, 30, 0)");
        y.gives(1, "due(0, 30, 1)");
        y.gives(30 - 11, "plan(10, 10000)");
        y.gives(1, "due(0, 30, 1000)");
        y.gives(30 - 1, "plan(999, 10000)");
        y.gives(30 - 2, "plan(1000, 10000)");
        y.refuses(6, "due(0, 30, 1001)");
        y.refuses(6, "due(0, 30, MAX)");
    }

    static void promise36_due_both0IsNone(Run y) {
        y.does("hive(0); sample(0, 1, 1)");
        y.gives(1, "due(0, 0, 0)");
        y.gives(0, "plan(0, 1)");
        order(y);
        y.does("due(0, 5, 5); plan(0, 1)");
        order(y, 0);
        y.refuses(6, "due(0, 0, 5)");
        y.refuses(6, "due(0, 5, 0)");
        y.refuses(6, "due(0, -1, -1)");
        y.gives(5, "plan(0, 1)");
        y.gives(1, "due(0, 0, 0)");
        y.gives(0, "plan(0, 1)");
    }

    static void promise36_due_hiveAheadOf6(Run y) {
        y.does("hive(0)");
        y.refuses(2, "due(40, 0, 1)");
        y.refuses(1, "due(1, 31, 1)");
        y.refuses(1, "due(39, 1, 1001)");
        y.refuses(2, "due(-1, 0, 0)");
    }

    // ---- 37 plan, and section 5

    static void promise37_plan_numbers0To10000(Run y) {
        y.does("hive(0); sample(0, 1, 1); due(0, 7, 1)");
        for (String wrong : new String[] {"MIN", "-1", "10001", "MAX"}) {
            y.refuses(6, "plan(" + wrong + ", 1)");
            y.refuses(6, "plan(1, " + wrong + ")");
        }
        y.gives(7, "plan(0, 1)");
        y.gives(7, "plan(0, 10000)");
        y.gives(0, "plan(10000, 1)");
        y.gives(7 - 1, "plan(10000, 10000)");
        y.gives(7, "plan(9999, 10000)");
    }

    static void promise37_plan_ofNone(Run y) {
        y.gives(0, "plan(0, 0)");
        order(y);
        y.does("hive(0); sample(0, 1, 1)");
        y.gives(0, "plan(10000, 10000)");
        y.gives(0, "plan(0, 0)");
        y.gives(0, "plan(0, 1)");
        order(y);
    }

    static void promise37_plan_8ButNot9(Run y) {
        y.does(9, "hive(0)");
        for (int h = 0; h < 8; h++) {
            y.does("due(" + h + ", 1, 1); sample(" + h + ", 1, 1)");
        }
        y.gives(36, "plan(0, 1)");
        order(y, 0, 1, 2, 3, 4, 5, 6, 7);
        y.does("sample(8, 1, 1); due(8, 1, 1)");
        y.refuses(8, "plan(0, 1)");
        order(y, 0, 1, 2, 3, 4, 5, 6, 7);
        y.does("due(0, 0, 0)");
        y.gives(36, "plan(0, 1)");
        order(y, 1, 2, 3, 4, 5, 6, 7, 8);
    }

    static void promise37_plan_all40AreTooMany(Run y) {
        y.does(40, "hive(0)");
        for (int h = 0; h < 40; h++) {
            y.does("due(" + h + ", 1, 1)");
        }
        y.refuses(8, "plan(0, 1)");
    }

    static void promise37_plan_eachNeedsWashed(Run y) {
        y.does("hive(0); hive(0); hive(0); due(0, 1, 1); due(2, 1, 1)");
        y.refuses(4, "plan(0, 1)");
        y.does("sample(0, 1, 1)");
        y.refuses(4, "plan(0, 1)");
        y.does("sample(2, 0, 1)");
        y.gives(1 + 1, "plan(0, 1)");
    }

    static void promise37_plan_byNoughtIfThereAreAny(Run y) {
        y.does("hive(0); sample(0, 1, 1)");
        y.gives(0, "plan(1, 0)");
        y.does("due(0, 1, 1)");
        y.refuses(4, "plan(1, 0)");
        y.refuses(4, "plan(0, 0)");
        y.gives(1, "plan(0, 1)");
    }

    static void promise37_plan_6AheadOf8AheadOf4(Run y) {
        y.does(9, "hive(0)");
        for (int h = 0; h < 8; h++) {
            y.does("due(" + h + ", 1, 1)");
        }
        y.refuses(6, "plan(-1, 0)");
        y.refuses(6, "plan(10001, 1)");
        y.refuses(4, "plan(0, 1)");
        y.refuses(4, "plan(0, 0)");
        y.does("due(8, 1, 1)");
        y.refuses(6, "plan(0, -1)");
        y.refuses(6, "plan(0, 10001)");
        y.refuses(8, "plan(0, 1)");
        y.refuses(8, "plan(0, 0)");
    }

    /** 10 + 5 * k of 100 beside a of 100. */
    static void promise37_plan_overFromAboveNotFromLike(Run y) {
        y.does("hive(0); due(0, 30, 5); sample(0, 10, 100)");
        y.gives(30, "plan(0, 100)");
        y.gives(30, "plan(9, 100)");
        y.gives(29, "plan(10, 100)");
        y.gives(29, "plan(14, 100)");
        y.gives(28, "plan(15, 100)");
        y.gives(28, "plan(19, 100)");
        y.gives(27, "plan(20, 100)");
    }

    static void promise37_plan_withoutMitesOverFromDay1(Run y) {
        y.does("hive(0); due(0, 30, 1000); sample(0, 0, 1)");
        y.gives(29, "plan(0, 1)");
        y.does("sample(0, 1, 1)");
        y.gives(30, "plan(0, 1)");
    }

    /** OVER from day a + 1 on, treated to the end of day 5. */
    static void promise37_plan_0IfTheEndIsNotBehindIt(Run y) {
        y.does("hive(0); due(0, 5, 1); sample(0, 0, 1)");
        y.gives(2, "plan(2, 1)");
        y.gives(1, "plan(3, 1)");
        y.gives(0, "plan(4, 1)");
        y.gives(0, "plan(5, 1)");
        y.gives(0, "plan(10000, 1)");
        order(y, 0);
    }

    static void promise37_plan_withoutABreak(Run y) {
        y.does("hive(0); hive(0); hive(0)");
        for (int h = 0; h < 3; h++) {
            y.does("due(" + h + ", " + (h + 1) * 10 + ", 1); sample(" + h + ", 1, 1)");
        }
        y.gives(10 + 30 + 60, "plan(0, 1)");
        order(y, 0, 1, 2);
    }

    static void promise37_plan_notAlwaysTheShortestFirst(Run y) {
        y.does("hive(0); hive(0); due(0, 1, 1); due(1, 2, 1); sample(0, 0, 100); sample(1, 10000, 100)");
        y.gives(2, "plan(1, 1)");
        order(y, 1, 0);
    }

    static void promise37_plan_ofLikeOnesTheLeastNumbers(Run y) {
        y.does("hive(0); hive(0); hive(0); hive(0)");
        for (int h = 3; h >= 0; h--) {
            y.does("due(" + h + ", 4, 1); sample(" + h + ", 1, 1)");
        }
        y.gives(40, "plan(0, 1)");
        order(y, 0, 1, 2, 3);
        y.gives(0, "plan(10000, 1)");
        order(y, 0, 1, 2, 3);
    }

    /** 1 must come first; behind it 0 and 2 may stand in either order. */
    static void promise37_plan_thenTheLeastSecond(Run y) {
        y.does("hive(0); hive(0); hive(0); due(0, 6, 1); due(1, 2, 1); due(2, 3, 1)");
        y.does("sample(0, 0, 20); sample(1, 50, 1); sample(2, 0, 20)");
        y.gives(2, "plan(1, 1)");
        order(y, 1, 0, 2);
    }

    static void promise37_plan_hives0And39(Run y) {
        y.does(40, "hive(0)");
        y.does("due(39, 2, 1); due(0, 3, 1); sample(39, 1, 1); sample(0, 1, 1)");
        y.gives(2 + 5, "plan(0, 1)");
        order(y, 39, 0);
    }

    static void promise37_plan_ofEightAsOfAllOrders(Run y) {
        Random random = new Random(37);
        for (int round = 0; round < 12; round++) {
            y.anew();
            int count = 5 + round % 4;
            int[] days = new int[count];
            int[] over = new int[count];
            for (int h = 0; h < count; h++) {
                days[h] = 1 + random.nextInt(round < 6 ? 30 : 4);
                int growth = 1 + random.nextInt(9);
                int mites = random.nextInt(60);
                y.does("hive(0); due(" + h + ", " + days[h] + ", " + growth + "); sample(" + h + ", " + mites + ", 100)");
                while ((mites + over[h] * growth) * 2 <= 100) {
                    over[h]++;
                }
            }
            int[] best = bestOrder(days, over);
            y.gives(daysOf(best, days, over), "plan(1, 2)");
            order(y, best);
        }
    }

    /** All orders, by first numbers: the first with the fewest days. */
    private static int[] bestOrder(int[] days, int[] over) {
        int[] order = new int[days.length];
        for (int i = 0; i < order.length; i++) {
            order[i] = i;
        }
        int[] best = order.clone();
        while (nextOrder(order)) {
            if (daysOf(order, days, over) < daysOf(best, days, over)) {
                best = order.clone();
            }
        }
        return best;
    }

    private static boolean nextOrder(int[] order) {
        int i = order.length - 2;
        while (i >= 0 && order[i] > order[i + 1]) {
            i--;
        }
        if (i < 0) {
            return false;
        }
        int j = order.length - 1;
        while (order[j] < order[i]) {
            j--;
        }
        swap(order, i, j);
        for (int low = i + 1, high = order.length - 1; low < high; low++, high--) {
            swap(order, low, high);
        }
        return true;
    }

    private static void swap(int[] row, int i, int j) {
        int kept = row[i];
        row[i] = row[j];
        row[j] = kept;
    }

    private static int daysOf(int[] order, int[] days, int[] over) {
        int end = 0;
        int sum = 0;
        for (int h : order) {
            end += days[h];
            sum += Math.max(0, end - over[h]);
        }
        return sum;
    }

    /** a * WASHED and MITES * b are far beyond an int. */
    static void promise37_plan_ofTheGreatestSums(Run y) {
        y.does("hive(0); due(0, 30, 1000)");
        y.does(450, "sample(0, 10000, 10000)");
        y.gives(30 - 1, "plan(10000, 10000)");
        y.gives(30, "plan(9999, 10000)");
        y.does("sample(0, 0, 10000)");
        y.gives(30 - 11, "plan(10000, 10000)");
        y.gives(0, "plan(10000, 1)");
        y.gives(30, "plan(1, 10000)");
    }

    static void promise37_plan_isNoChange(Run y) {
        y.does("hive(0); due(0, 30, 1000); sample(0, 1, 1)");
        y.isNoChange("plan(0, 1)");
    }

    // ---- 38 chosen

    static void promise38_chosen_noneYet(Run y) {
        y.refuses(1, "chosen(0)");
        y.refuses(1, "chosen(-1)");
        y.refuses(1, "chosen(8)");
        y.does("hive(0); due(0, 1, 1)");
        y.refuses(4, "plan(0, 1)");
        y.refuses(6, "plan(-1, 1)");
        y.refuses(1, "chosen(0)");
    }

    static void promise38_chosen_ofNone(Run y) {
        y.does("plan(0, 0)");
        y.refuses(2, "chosen(0)");
        y.refuses(2, "chosen(-1)");
    }

    static void promise38_chosen_from0ToTheLast(Run y) {
        y.does("hive(0); hive(0); due(0, 3, 1); due(1, 2, 1); sample(0, 1, 1); sample(1, 1, 1); plan(0, 1)");
        y.refuses(2, "chosen(MIN)");
        y.refuses(2, "chosen(-1)");
        y.gives(1, "chosen(0)");
        y.gives(0, "chosen(1)");
        y.refuses(2, "chosen(2)");
        y.refuses(2, "chosen(MAX)");
    }

    static void promise38_chosen_ofEight(Run y) {
        y.does(8, "hive(0)");
        for (int h = 0; h < 8; h++) {
            y.does("due(" + h + ", " + (8 - h) + ", 1); sample(" + h + ", 1, 1)");
        }
        y.does("plan(0, 1)");
        order(y, 7, 6, 5, 4, 3, 2, 1, 0);
        y.refuses(2, "chosen(8)");
    }

    static void promise38_chosen_theLatestPlanStays(Run y) {
        y.does("hive(0); hive(0); due(0, 3, 1); due(1, 2, 1); sample(0, 1, 1); sample(1, 1, 1); plan(0, 1)");
        y.does("due(1, 0, 0)");
        order(y, 1, 0);
        y.does("undo()");
        order(y, 1, 0);
        y.refuses(4, "plan(0, 0)");
        y.refuses(6, "plan(0, 10001)");
        order(y, 1, 0);
        y.does("due(1, 0, 0); plan(0, 1)");
        order(y, 0);
        y.does("due(0, 0, 0); plan(0, 1)");
        order(y);
    }
}
