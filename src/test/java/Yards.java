/** Yards that several tests begin with. */
final class Yards {
    private Yards() {
    }

    /** Two HIVES, the first with one BOX, the other with none: what Run.refusesPlaces() asks for. */
    static void small(Run y) {
        y.does("hive(100); hive(100); box(0)");
    }

    /** The last PLACES of all are there: HIVE 39 has 8 BOXES. */
    static void lastPlaces(Run y) {
        y.does(40, "hive(0)");
        y.does(8, "box(39)");
    }

    /** FRAMES at PLACES next to each other. */
    static void frames(Run y, int first, int count, int fields) {
        for (int i = 0; i < count; i++) {
            y.does("frame(" + (first + i) + ", " + fields + ")");
        }
    }

    /** THINGS 0 to 5, each of the KIND that is its number, and a HIVE, to which the Swarms leave a third of its BEES. */
    static void oneOfEachKind(Run y, int bees) {
        y.does("thing(0); thing(1); thing(2); thing(3); hive(" + bees + "); swarm(0, 4); swarm(0, 5)");
    }
}
