/** For each promise of the document: ordinary inputs, the edges that it names, wrong inputs. */
public final class PromiseTest {
    private static final int MIN = Integer.MIN_VALUE;
    private static final int MAX = Integer.MAX_VALUE;
    private static final Check c = new Check();

    public static void main(String[] args) {
        yardPromises();
        honeyPromises();
        movePromises();
        thingPromises();
        dayPromises();
        mitePromises();
        lookingPromises();
        c.done("PromiseTest");
    }

    private static void yardPromises() {
        c.about("1 new object");
        newObject();
        c.about("2 hive");
        hive();
        c.about("3 box");
        box();
        c.about("4 frame");
        frame();
        c.about("5 out");
        out();
        c.about("6 back");
        back();
        c.about("7 at");
        at();
        c.about("8 where");
        where();
        c.about("9 field");
        field();
        c.about("10 put");
        put();
    }

    private static void honeyPromises() {
        c.about("11 bring");
        bring();
        c.about("12 harvest");
        harvest();
        c.about("13 ledger");
        ledger();
        c.about("14 honey");
        honey();
    }

    private static void movePromises() {
        c.about("15 move");
        move();
        moveStops();
        moveChanges();
        c.about("16 moved");
        moved();
        c.about("17 stack");
        stack();
        c.about("18 join");
        join();
        c.about("19 split");
        split();
    }

    private static void thingPromises() {
        c.about("20 thing");
        thing();
        c.about("21 line");
        line();
        lineRings();
        lineDepths();
        lineDepthsOfFirst();
        c.about("22 kin");
        kin();
        kinDeep();
        c.about("23 ask");
        ask();
        askBodies();
        c.about("24 slot");
        slot();
        c.about("25 lay");
        lay();
        c.about("26 mate");
        mate();
        c.about("28 swarm");
        swarm();
        c.about("29 settle");
        settle();
    }

    private static void dayPromises() {
        c.about("27 day");
        day();
        dayPasses();
        dayGrows();
        dayLays();
        dayLaysDrones();
        dayEats();
        dayStarves();
    }

    private static void mitePromises() {
        c.about("30 share");
        share();
        c.about("31 shared");
        shared();
        c.about("32 sample");
        sample();
        c.about("33 mites");
        mites();
        c.about("34 compare");
        compare();
        c.about("35 treat");
        treat();
        c.about("36 due");
        due();
        c.about("37 plan");
        plan();
        planOrders();
        c.about("38 chosen");
        chosen();
    }

    private static void lookingPromises() {
        c.about("39 inspect");
        inspect();
        c.about("40 gap");
        gap();
        c.about("41 find");
        find();
        c.about("42 export");
        export();
        c.about("43 letter");
        letter();
        c.about("44 copy");
        copy();
        c.about("45 trace");
        trace();
        c.about("46 undo");
        undo();
        undoneNumbers();
        undoOfEach();
        c.about("47 digest");
        digest();
        c.about("48 status");
        status();
    }

    /** Hives with so many BOXES each, 100 BEES each. */
    private static BeeYard yard(int... boxes) {
        BeeYard x = new BeeYard();
        for (int h = 0; h < boxes.length; h++) {
            x.hive(100);
            for (int i = 0; i < boxes[h]; i++) {
                x.box(h);
            }
        }
        return x;
    }

    private static void hiveRefusals(BeeYard x, String call, java.util.function.IntUnaryOperator f) {
        c.refused(x, call + " with h -1", f.applyAsInt(-1), 2);
        c.refused(x, call + " with h MIN", f.applyAsInt(MIN), 2);
        c.refused(x, call + " with h 40", f.applyAsInt(40), 2);
        c.refused(x, call + " with h MAX", f.applyAsInt(MAX), 2);
        c.refused(x, call + " with h 39", f.applyAsInt(39), 1);
    }

    private static void thingRefusals(BeeYard x, String call, java.util.function.IntUnaryOperator f) {
        c.refused(x, call + " with t -2", f.applyAsInt(-2), 2);
        c.refused(x, call + " with t MIN", f.applyAsInt(MIN), 2);
        c.refused(x, call + " with t 200", f.applyAsInt(200), 2);
        c.refused(x, call + " with t MAX", f.applyAsInt(MAX), 2);
        c.refused(x, call + " with t 199", f.applyAsInt(199), 1);
    }

    /** Of a yard whose HIVE 0 has one BOX and whose last HIVE has not 8. */
    private static void placeRefusals(BeeYard x, String call, java.util.function.IntUnaryOperator f) {
        c.refused(x, call + " with p -1", f.applyAsInt(-1), 2);
        c.refused(x, call + " with p MIN", f.applyAsInt(MIN), 2);
        c.refused(x, call + " with p 3840", f.applyAsInt(3840), 2);
        c.refused(x, call + " with p MAX", f.applyAsInt(MAX), 2);
        c.refused(x, call + " with p 3839", f.applyAsInt(3839), 1);
        c.refused(x, call + " with p 12", f.applyAsInt(12), 1);
    }

    private static void newObject() {
        BeeYard x = new BeeYard();
        c.is("status()", x.status(), 0);
        c.is("moved()", x.moved(), 0);
        for (int b = -1; b < 18; b++) {
            c.is("trace(" + b + ")", x.trace(b), 0);
        }
        for (int what = 0; what < 5; what++) {
            c.answer(x, "honey(" + what + ")", x.honey(what), 0);
        }
        c.refused(x, "inspect(0, 0)", x.inspect(0, 0), 1);
        c.refused(x, "ask(0, 0)", x.ask(0, 0), 1);
        c.refused(x, "where(0)", x.where(0), 1);
        c.refused(x, "ledger(0, 0)", x.ledger(0, 0), 1);
        c.refused(x, "back(0, 0)", x.back(0, 0), 1);
        c.refused(x, "back(23, 0)", x.back(23, 0), 1);
        c.refused(x, "shared(0)", x.shared(0), 1);
        c.refused(x, "letter(0)", x.letter(0), 1);
        c.refused(x, "copy(0, 0, 0)", x.copy(0, 0, 0), 1);
        c.refused(x, "chosen(0)", x.chosen(0), 1);
        c.answer(x, "undo()", x.undo(), 0);
        int d = 17;
        for (int i = 0; i < 27; i++) {
            d = d * 31;
        }
        c.is("digest()", x.digest(), d);
        BeeYard other = new BeeYard();
        x.hive(5);
        c.refused(other, "inspect(0, 0) of another object", other.inspect(0, 0), 1);
    }

    private static void hive() {
        BeeYard x = new BeeYard();
        c.refused(x, "hive(-1)", x.hive(-1), 6);
        c.refused(x, "hive(20001)", x.hive(20001), 6);
        c.refused(x, "hive(MIN)", x.hive(MIN), 6);
        c.refused(x, "hive(MAX)", x.hive(MAX), 6);
        c.answer(x, "hive(20000)", x.hive(20000), 0);
        c.answer(x, "inspect(0, 0)", x.inspect(0, 0), 20000);
        c.answer(x, "inspect(0, 3)", x.inspect(0, 3), 0);
        for (int h = 1; h < 40; h++) {
            c.answer(x, "hive(0)", x.hive(0), h);
        }
        c.refused(x, "hive(0), the 41st", x.hive(0), 6);
        c.answer(x, "undo()", x.undo(), 1);
        c.refused(x, "inspect(39, 0)", x.inspect(39, 0), 1);
        c.answer(x, "hive(7) again", x.hive(7), 39);
        c.answer(x, "inspect(39, 0)", x.inspect(39, 0), 7);
    }

    private static void box() {
        BeeYard x = yard(0, 0);
        hiveRefusals(x, "box", h -> x.box(h));
        for (int i = 0; i < 8; i++) {
            c.answer(x, "box(1)", x.box(1), i);
        }
        c.refused(x, "box(1), the ninth", x.box(1), 6);
        c.answer(x, "box(0)", x.box(0), 0);
        c.answer(x, "inspect(1, 5)", x.inspect(1, 5), 96);
        c.answer(x, "inspect(0, 5)", x.inspect(0, 5), 12);
        x.frame(11, 3);
        x.stack(0, 1);
        c.answer(x, "stack(0, 1) into a full one leaves it", x.inspect(0, 3), 1);
        BeeYard y = yard(1, 1);
        y.frame(0, 5);
        y.stack(0, 1);
        c.answer(y, "box(0) once more", y.box(0), 0);
        c.refused(y, "at(0) of a new BOX", y.at(0), 1);
    }

    private static void frame() {
        BeeYard x = yard(1, 8);
        placeRefusals(x, "frame", p -> x.frame(p, 5));
        c.refused(x, "frame(192, 65) without HIVE", x.frame(192, 65), 1);
        c.refused(x, "frame(0, 65)", x.frame(0, 65), 6);
        c.refused(x, "frame(0, MAX)", x.frame(0, MAX), 6);
        c.refused(x, "frame(0, -1)", x.frame(0, -1), 5);
        c.refused(x, "frame(0, MIN)", x.frame(0, MIN), 5);
        c.answer(x, "frame(11, 0)", x.frame(11, 0), 0);
        c.answer(x, "frame(191, 64)", x.frame(191, 64), 1);
        c.refused(x, "frame(11, -1) onto one", x.frame(11, -1), 6);
        c.refused(x, "field(11, 0)", x.field(11, 0), 2);
        for (int i = 0; i < 64; i++) {
            c.answer(x, "field(191, i)", x.field(191, i), 0);
        }
        BeeYard y = yard(8, 8, 8);
        for (int n = 0; n < 200; n++) {
            c.answer(y, "frame(n, 1)", y.frame(n, 1), n);
        }
        c.refused(y, "frame(200, 1), the 201st", y.frame(200, 1), 6);
        c.refused(y, "frame(200, -1), the 201st", y.frame(200, -1), 6);
        y.undo();
        c.refused(y, "at(199) after undo", y.at(199), 1);
        c.answer(y, "frame(200, 2)", y.frame(200, 2), 199);
        c.answer(y, "field(200, 1)", y.field(200, 1), 0);
    }

    private static void out() {
        BeeYard x = yard(1, 3);
        placeRefusals(x, "out", p -> x.out(p));
        c.refused(x, "out(0)", x.out(0), 1);
        for (int i = 0; i < 25; i++) {
            x.frame(96 + i, 2);
        }
        for (int i = 0; i < 24; i++) {
            c.answer(x, "out(96 + i)", x.out(96 + i), i);
        }
        c.refused(x, "out(120), the bench full", x.out(120), 6);
        c.refused(x, "out(96) from where it was taken", x.out(96), 1);
        c.refused(x, "at(96)", x.at(96), 1);
        x.back(5, 0);
        x.back(3, 1);
        c.answer(x, "out(120) to the least", x.out(120), 3);
        c.answer(x, "where(24)", x.where(24), -5);
        c.answer(x, "out(0) to the next", x.out(0), 5);
    }

    private static void back() {
        BeeYard x = yard(1, 1);
        x.frame(0, 3);
        x.frame(1, 4);
        x.bring(0, 120);
        x.out(0);
        c.refused(x, "back(-1, 0)", x.back(-1, 0), 2);
        c.refused(x, "back(24, 0)", x.back(24, 0), 2);
        c.refused(x, "back(MIN, -1)", x.back(MIN, -1), 2);
        c.refused(x, "back(1, -1)", x.back(1, -1), 1);
        c.refused(x, "back(23, 0)", x.back(23, 0), 1);
        placeRefusals(x, "back", p -> x.back(0, p));
        c.refused(x, "back(0, 1)", x.back(0, 1), 6);
        c.answer(x, "back(0, 107)", x.back(0, 107), 1);
        c.answer(x, "where(0)", x.where(0), 107);
        c.answer(x, "field(107, 1)", x.field(107, 1), 20);
        c.refused(x, "back(0, 0) again", x.back(0, 0), 1);
    }

    private static void at() {
        BeeYard x = yard(1, 8);
        x.frame(3, 3);
        x.frame(191, 4);
        x.frame(96 + 12, 4);
        placeRefusals(x, "at", p -> x.at(p));
        c.answer(x, "at(3)", x.at(3), 0);
        c.answer(x, "at(191)", x.at(191), 1);
        c.answer(x, "at(108)", x.at(108), 2);
        c.refused(x, "at(2)", x.at(2), 1);
    }

    private static void where() {
        BeeYard x = yard(1, 2);
        x.frame(3, 3);
        x.frame(119, 4);
        x.frame(0, 0);
        c.answer(x, "where(0)", x.where(0), 3);
        c.answer(x, "where(1)", x.where(1), 119);
        c.answer(x, "where(2)", x.where(2), 0);
        c.refused(x, "where(3)", x.where(3), 1);
        c.refused(x, "where(199)", x.where(199), 1);
        c.refused(x, "where(200)", x.where(200), 2);
        c.refused(x, "where(-1)", x.where(-1), 2);
        c.refused(x, "where(MIN)", x.where(MIN), 2);
        x.out(0);
        x.out(119);
        c.answer(x, "where(2) on the bench", x.where(2), -2);
        c.answer(x, "where(1) on the bench", x.where(1), -3);
    }

    private static void field() {
        BeeYard x = yard(1, 1);
        x.frame(4, 3);
        x.bring(0, 130);
        placeRefusals(x, "field", p -> x.field(p, 0));
        c.refused(x, "field(0, -1)", x.field(0, -1), 1);
        c.refused(x, "field(4, -1)", x.field(4, -1), 2);
        c.refused(x, "field(4, 3)", x.field(4, 3), 2);
        c.refused(x, "field(4, MAX)", x.field(4, MAX), 2);
        c.refused(x, "field(4, MIN)", x.field(4, MIN), 2);
        c.answer(x, "field(4, 0)", x.field(4, 0), 100);
        c.answer(x, "field(4, 1)", x.field(4, 1), 30);
        c.answer(x, "field(4, 2)", x.field(4, 2), 0);
    }

    private static void put() {
        BeeYard x = yard(1, 1);
        x.frame(4, 3);
        x.bring(0, 130);
        placeRefusals(x, "put", p -> x.put(p, 0, 0));
        c.refused(x, "put(0, -1, 1)", x.put(0, -1, 1), 1);
        c.refused(x, "put(4, -1, 1)", x.put(4, -1, 1), 2);
        c.refused(x, "put(4, 3, 0)", x.put(4, 3, 0), 2);
        for (int v : new int[] {-1, 1, 50, 100, 199, 201, 299, 301, 320, 399, 401, 423, 500, MIN, MAX}) {
            c.refused(x, "put(4, 0, " + v + ")", x.put(4, 0, v), 6);
        }
        c.answer(x, "field(4, 0)", x.field(4, 0), 100);
        c.answer(x, "put(4, 0, 200)", x.put(4, 0, 200), 100);
        c.answer(x, "honey(3)", x.honey(3), 100);
        c.answer(x, "put(4, 1, 0)", x.put(4, 1, 0), 30);
        c.answer(x, "honey(3)", x.honey(3), 130);
        c.answer(x, "put(4, 0, 300)", x.put(4, 0, 300), 200);
        c.answer(x, "put(4, 0, 400)", x.put(4, 0, 400), 300);
        c.answer(x, "put(4, 0, 0)", x.put(4, 0, 0), 400);
        c.answer(x, "honey(3)", x.honey(3), 130);
        c.answer(x, "honey(0)", x.honey(0), 0);
    }

    private static void bring() {
        BeeYard x = yard(2, 1);
        hiveRefusals(x, "bring", h -> x.bring(h, 1));
        c.refused(x, "bring(0, -1)", x.bring(0, -1), 6);
        c.refused(x, "bring(0, 10001)", x.bring(0, 10001), 6);
        c.refused(x, "bring(0, MIN)", x.bring(0, MIN), 6);
        c.answer(x, "honey(4)", x.honey(4), 0);
        c.answer(x, "bring(1, 10000)", x.bring(1, 10000), 0);
        c.answer(x, "honey(3)", x.honey(3), 10000);
        x.frame(13, 2);
        x.frame(5, 3);
        x.frame(2, 1);
        x.put(5, 0, 300);
        x.put(13, 0, 200);
        c.answer(x, "bring(0, 0)", x.bring(0, 0), 0);
        c.answer(x, "bring(0, 130)", x.bring(0, 130), 130);
        c.answer(x, "field(2, 0)", x.field(2, 0), 100);
        c.answer(x, "field(5, 0)", x.field(5, 0), 300);
        c.answer(x, "field(5, 1)", x.field(5, 1), 30);
        c.answer(x, "bring(0, 50)", x.bring(0, 50), 50);
        c.answer(x, "field(5, 1)", x.field(5, 1), 80);
        c.answer(x, "bring(0, 320)", x.bring(0, 320), 220);
        c.answer(x, "field(5, 1)", x.field(5, 1), 100);
        c.answer(x, "field(5, 2)", x.field(5, 2), 100);
        c.answer(x, "field(13, 0)", x.field(13, 0), 200);
        c.answer(x, "field(13, 1)", x.field(13, 1), 100);
        c.answer(x, "honey(3)", x.honey(3), 10100);
        c.answer(x, "honey(4)", x.honey(4), 10500);
        c.answer(x, "honey(0)", x.honey(0), 400);
    }

    private static void harvest() {
        BeeYard x = yard(1, 1);
        x.frame(4, 3);
        x.frame(5, 3);
        placeRefusals(x, "harvest", p -> x.harvest(p));
        c.refused(x, "harvest(3)", x.harvest(3), 1);
        x.put(4, 0, 200);
        x.put(4, 1, 400);
        x.bring(0, 250);
        c.answer(x, "harvest(4)", x.harvest(4), 100);
        c.answer(x, "field(4, 0)", x.field(4, 0), 200);
        c.answer(x, "field(4, 1)", x.field(4, 1), 400);
        c.answer(x, "field(4, 2)", x.field(4, 2), 0);
        c.answer(x, "honey(0)", x.honey(0), 150);
        c.answer(x, "honey(1)", x.honey(1), 100);
        c.answer(x, "undo()", x.undo(), 1);
        c.refused(x, "ledger(0, 0)", x.ledger(0, 0), 1);
        c.answer(x, "harvest(5)", x.harvest(5), 150);
        c.answer(x, "ledger(0, 0), the next number stays", x.ledger(0, 0), 1);
        for (int k = 1; k < 200; k++) {
            c.answer(x, "harvest(5) of nothing", x.harvest(5), 0);
        }
        c.refused(x, "harvest(5), the ledger full", x.harvest(5), 6);
        c.answer(x, "ledger(199, 0)", x.ledger(199, 0), 200);
        c.refused(x, "harvest(3), the ledger full", x.harvest(3), 1);
        c.answer(x, "undo()", x.undo(), 1);
        c.answer(x, "harvest(4)", x.harvest(4), 100);
        c.answer(x, "ledger(199, 0)", x.ledger(199, 0), 201);
        c.answer(x, "ledger(199, 1)", x.ledger(199, 1), 4);
    }

    private static void ledger() {
        BeeYard x = yard(1, 1);
        x.frame(4, 3);
        x.frame(100, 3);
        x.bring(0, 33);
        x.bring(1, 44);
        x.harvest(100);
        x.harvest(4);
        c.refused(x, "ledger(-1, 0)", x.ledger(-1, 0), 2);
        c.refused(x, "ledger(200, 0)", x.ledger(200, 0), 2);
        c.refused(x, "ledger(MAX, 5)", x.ledger(MAX, 5), 2);
        c.refused(x, "ledger(2, 5)", x.ledger(2, 5), 1);
        c.refused(x, "ledger(199, 0)", x.ledger(199, 0), 1);
        c.refused(x, "ledger(1, 3)", x.ledger(1, 3), 2);
        c.refused(x, "ledger(1, -1)", x.ledger(1, -1), 2);
        c.answer(x, "ledger(0, 0)", x.ledger(0, 0), 0);
        c.answer(x, "ledger(0, 1)", x.ledger(0, 1), 100);
        c.answer(x, "ledger(0, 2)", x.ledger(0, 2), 44);
        c.answer(x, "ledger(1, 0)", x.ledger(1, 0), 1);
        c.answer(x, "ledger(1, 1)", x.ledger(1, 1), 4);
        c.answer(x, "ledger(1, 2)", x.ledger(1, 2), 33);
    }

    private static void honey() {
        BeeYard x = new BeeYard();
        x.hive(250);
        x.box(0);
        x.frame(0, 2);
        x.frame(1, 2);
        x.bring(0, 500);
        x.put(1, 1, 0);
        x.harvest(1);
        x.day(1);
        for (int i = 0; i < 2; i++) {
            c.answer(x, "honey(0)", x.honey(0), 198);
            c.answer(x, "honey(1)", x.honey(1), 100);
            c.answer(x, "honey(2)", x.honey(2), 2);
            c.answer(x, "honey(3)", x.honey(3), 200);
            c.answer(x, "honey(4)", x.honey(4), 500);
            // The BENCH's counts, too.
            x.out(0);
        }
        c.refused(x, "honey(5)", x.honey(5), 6);
        c.refused(x, "honey(-1)", x.honey(-1), 6);
        c.refused(x, "honey(MIN)", x.honey(MIN), 6);
    }

    private static void move() {
        BeeYard x = yard(1, 1);
        x.frame(0, 2);
        x.frame(1, 3);
        x.frame(96, 4);
        x.frame(97, 3);
        x.bring(0, 220);
        x.put(1, 2, 300);
        x.bring(1, 450);
        c.answer(x, "move(0, 96, 2)", x.move(0, 96, 2), 2);
        c.answer(x, "field(96, 0)", x.field(96, 0), 100);
        c.answer(x, "field(96, 1)", x.field(96, 1), 100);
        c.answer(x, "field(96, 2) beyond those that came", x.field(96, 2), 100);
        c.answer(x, "field(96, 3) beyond those that came", x.field(96, 3), 100);
        c.answer(x, "field(97, 0)", x.field(97, 0), 20);
        c.answer(x, "field(97, 1)", x.field(97, 1), 0);
        c.answer(x, "field(97, 2)", x.field(97, 2), 300);
        c.answer(x, "inspect(0, 10)", x.inspect(0, 10), 5);
        c.answer(x, "honey(3)", x.honey(3), 250);
        c.answer(x, "move(96, 96, 2) to themselves", x.move(96, 96, 2), 2);
        c.answer(x, "inspect(1, 6)", x.inspect(1, 6), 420);
        c.answer(x, "inspect(1, 7)", x.inspect(1, 7), 1);
        c.answer(x, "honey(3)", x.honey(3), 250);
        BeeYard y = yard(1);
        for (int p = 0; p < 4; p++) {
            y.frame(p, 1);
        }
        y.put(0, 0, 200);
        y.put(1, 0, 300);
        c.answer(y, "move(0, 1, 3), one after the other", y.move(0, 1, 3), 3);
        c.answer(y, "field(3, 0)", y.field(3, 0), 200);
        c.answer(y, "inspect(0, 10)", y.inspect(0, 10), 3);
        BeeYard z = yard(1, 1);
        for (int p = 0; p < 12; p++) {
            z.frame(p, 1);
            z.frame(96 + p, 1);
            z.put(p, 0, 200);
        }
        c.answer(z, "move(0, 96, 12)", z.move(0, 96, 12), 12);
        c.answer(z, "inspect(1, 11)", z.inspect(1, 11), 12);
    }

    private static void moveStops() {
        BeeYard x = yard(1, 1);
        x.frame(0, 4);
        x.frame(1, 4);
        x.frame(2, 4);
        x.frame(96, 4);
        x.frame(97, 3);
        x.bring(0, 1000);
        c.refused(x, "move(0, 96, 13)", x.move(0, 96, 13), 6);
        c.refused(x, "move(0, 96, MAX)", x.move(0, 96, MAX), 6);
        c.refused(x, "move(-1, 96, -1)", x.move(-1, 96, -1), 5);
        c.refused(x, "move(0, 96, MIN)", x.move(0, 96, MIN), 5);
        c.refused(x, "move(-1, 3840, 1)", x.move(-1, 3840, 1), 2);
        c.refused(x, "move(MAX, 0, 2)", x.move(MAX, 0, 2), 2);
        c.refused(x, "move(0, MAX, 2)", x.move(0, MAX, 2), 2);
        c.refused(x, "move(12, -1, 1)", x.move(12, -1, 1), 1);
        c.refused(x, "move(3, -1, 1)", x.move(3, -1, 1), 1);
        c.refused(x, "move(0, 98, 1)", x.move(0, 98, 1), 1);
        c.refused(x, "move(1, 97, 1)", x.move(1, 97, 1), 2);
        c.answer(x, "inspect(0, 6)", x.inspect(0, 6), 1000);
        c.answer(x, "move(MAX, MIN, 0)", x.move(MAX, MIN, 0), 0);
        c.refused(x, "move(0, 96, 3)", x.move(0, 96, 3), 2);
        c.is("moved()", x.moved(), 1);
        c.answer(x, "inspect(0, 6)", x.inspect(0, 6), 600);
        c.answer(x, "inspect(1, 6)", x.inspect(1, 6), 400);
        c.answer(x, "move(97, 1, 1) into more FIELDS", x.move(97, 1, 1), 1);
        c.answer(x, "field(1, 3)", x.field(1, 3), 100);
        c.answer(x, "honey(3)", x.honey(3), 300);
    }

    private static void moveChanges() {
        BeeYard x = yard(1, 1);
        x.frame(0, 4);
        x.frame(96, 4);
        x.put(0, 0, 200);
        x.move(1, 96, 1);
        x.move(0, 96, 0);
        x.move(0, 96, 13);
        c.answer(x, "undo() takes back put(), not a move() by which none came", x.undo(), 1);
        c.answer(x, "inspect(0, 11)", x.inspect(0, 11), 0);
        x.put(0, 0, 200);
        x.move(0, 96, 2);
        c.answer(x, "undo() of a move() that stopped", x.undo(), 1);
        c.answer(x, "inspect(0, 11)", x.inspect(0, 11), 1);
        c.answer(x, "inspect(1, 11)", x.inspect(1, 11), 0);
        c.is("moved() stays", x.moved(), 1);
        x.put(0, 1, 200);
        x.move(0, 0, 1);
        c.answer(x, "undo() of a move() to itself", x.undo(), 1);
        c.answer(x, "inspect(0, 11)", x.inspect(0, 11), 2);
        c.answer(x, "undo()", x.undo(), 0);
    }

    private static void moved() {
        BeeYard x = yard(1, 1);
        x.frame(0, 4);
        x.frame(1, 4);
        x.frame(96, 4);
        x.frame(97, 4);
        c.is("moved() ahead of all", x.moved(), 0);
        x.move(0, 96, 2);
        c.is("moved()", x.moved(), 2);
        x.move(0, 96, 13);
        x.move(0, 96, -1);
        c.is("moved() after refused ones", x.moved(), 2);
        c.is("status() is left by moved()", x.status(), 5);
        x.move(0, 96, 12);
        c.is("moved() after one that stopped", x.moved(), 2);
        x.move(0, 0, 1);
        c.is("moved() of one to itself", x.moved(), 1);
        x.move(2, 96, 1);
        c.is("moved() after one that stopped at once", x.moved(), 0);
        x.move(0, 96, 1);
        x.move(0, 96, 0);
        c.is("moved() of none", x.moved(), 0);
        x.move(0, 96, 1);
        x.undo();
        c.is("moved() after undo()", x.moved(), 1);
    }

    private static void stack() {
        BeeYard x = yard(2, 1, 0);
        hiveRefusals(x, "stack", h -> x.stack(h, 0));
        hiveRefusals(x, "stack to", g -> x.stack(0, g));
        c.refused(x, "stack(-1, 39)", x.stack(-1, 39), 2);
        c.refused(x, "stack(39, -1)", x.stack(39, -1), 1);
        c.refused(x, "stack(2, 0)", x.stack(2, 0), 2);
        c.refused(x, "stack(2, 2)", x.stack(2, 2), 2);
        c.refused(x, "stack(0, 0)", x.stack(0, 0), 6);
        x.frame(12, 5);
        x.frame(0, 6);
        c.answer(x, "stack(0, 1)", x.stack(0, 1), 1);
        c.answer(x, "at(108)", x.at(108), 0);
        c.refused(x, "at(12)", x.at(12), 1);
        c.answer(x, "at(0)", x.at(0), 1);
        c.answer(x, "stack(0, 2)", x.stack(0, 2), 0);
        c.answer(x, "at(192)", x.at(192), 1);
        c.answer(x, "inspect(0, 0), BEES stay", x.inspect(0, 0), 100);
        BeeYard y = yard(1, 8);
        c.refused(y, "stack(0, 1)", y.stack(0, 1), 6);
        c.answer(y, "stack(1, 0)", y.stack(1, 0), 1);
        c.answer(y, "stack(0, 1)", y.stack(0, 1), 7);
    }

    private static void join() {
        BeeYard x = yard(2, 2);
        hiveRefusals(x, "join", h -> x.join(h, 0));
        hiveRefusals(x, "join with", g -> x.join(0, g));
        c.refused(x, "join(39, -1)", x.join(39, -1), 1);
        c.refused(x, "join(0, 0)", x.join(0, 0), 6);
        x.frame(0, 5);
        x.frame(96, 6);
        x.frame(119, 7);
        x.thing(0);
        x.thing(3);
        x.slot(1, 0);
        x.sample(0, 1, 10);
        x.sample(1, 2, 20);
        x.sample(1, 3, 30);
        x.due(1, 5, 6);
        x.put(96, 0, 400);
        x.bring(0, 100);
        x.day(1);
        x.hive(0);
        int hungers = x.inspect(0, 2) + x.inspect(1, 2);
        c.answer(x, "join(0, 1)", x.join(0, 1), 2);
        c.answer(x, "where(0)", x.where(0), 0);
        c.answer(x, "where(1)", x.where(1), 24);
        c.answer(x, "where(2)", x.where(2), 47);
        c.answer(x, "inspect(0, 3)", x.inspect(0, 3), 4);
        c.answer(x, "inspect(1, 3)", x.inspect(1, 3), 0);
        c.answer(x, "inspect(0, 0)", x.inspect(0, 0), 98);
        c.answer(x, "inspect(1, 0)", x.inspect(1, 0), 0);
        c.answer(x, "inspect(0, 2)", x.inspect(0, 2), hungers);
        c.answer(x, "inspect(1, 2)", x.inspect(1, 2), 0);
        c.answer(x, "mites(0, 0)", x.mites(0, 0), 6);
        c.answer(x, "mites(0, 1)", x.mites(0, 1), 60);
        c.answer(x, "mites(1, 1)", x.mites(1, 1), 0);
        c.answer(x, "sample(0, 0, 1)", x.sample(0, 0, 1), 4);
        c.answer(x, "sample(1, 0, 1)", x.sample(1, 0, 1), 1);
        c.answer(x, "ask(0, 13)", x.ask(0, 13), 0);
        c.answer(x, "slot(1, 1)", x.slot(1, 1), -1);
        c.answer(x, "plan(0, 1), the TREATING stays", x.plan(0, 1), 4);
        c.answer(x, "chosen(0)", x.chosen(0), 1);
        c.answer(x, "join(0, 1) with both SLOTS", x.join(0, 1), 4);
        c.answer(x, "ask(0, 13)", x.ask(0, 13), 0);
        c.answer(x, "ask(1, 13)", x.ask(1, 13), -1);
        c.answer(x, "slot(2, 1)", x.slot(2, 1), -1);
        joinEdges();
    }

    private static void joinEdges() {
        BeeYard x = yard(4, 4, 5);
        c.refused(x, "join(0, 2), nine BOXES", x.join(0, 2), 6);
        c.answer(x, "join(0, 1), eight BOXES", x.join(0, 1), 4);
        c.answer(x, "inspect(0, 0)", x.inspect(0, 0), 200);
        BeeYard y = yard(1, 1);
        y.frame(96, 64);
        y.put(96, 3, 400);
        y.day(24);
        c.answer(y, "inspect(1, 1)", y.inspect(1, 1), 1);
        y.join(0, 1);
        c.answer(y, "inspect(0, 1)", y.inspect(0, 1), 1);
        c.answer(y, "inspect(1, 1)", y.inspect(1, 1), 0);
        c.answer(y, "inspect(1, 4), the FINDING stays", y.inspect(1, 4), 1);
        BeeYard w = new BeeYard();
        w.hive(70);
        w.hive(60);
        w.day(1);
        c.answer(w, "join(0, 1)", w.join(0, 1), 0);
        c.answer(w, "inspect(0, 2), both HUNGERS", w.inspect(0, 2), 130);
        c.answer(w, "inspect(1, 2)", w.inspect(1, 2), 0);
        c.answer(w, "inspect(0, 0)", w.inspect(0, 0), 128);
        c.answer(w, "inspect(1, 0)", w.inspect(1, 0), 0);
        BeeYard z = yard(1, 1);
        z.day(1);
        z.hive(0);
        z.join(2, 0);
        z.thing(0);
        z.slot(2, 0);
        z.join(2, 1);
        c.answer(z, "ask(0, 13)", z.ask(0, 13), 2);
    }

    private static void split() {
        BeeYard x = yard(3, 0, 1, 0);
        hiveRefusals(x, "split", h -> x.split(h, 0, 1));
        hiveRefusals(x, "split to", g -> x.split(0, 0, g));
        c.refused(x, "split(39, 0, -1)", x.split(39, 0, -1), 1);
        c.refused(x, "split(0, 9, 0)", x.split(0, 9, 0), 6);
        c.refused(x, "split(0, 9, 2)", x.split(0, 9, 2), 6);
        c.refused(x, "split(0, 4, 1)", x.split(0, 4, 1), 2);
        c.refused(x, "split(0, -1, 1)", x.split(0, -1, 1), 2);
        c.refused(x, "split(1, 1, 3)", x.split(1, 1, 3), 2);
        c.refused(x, "split(1, 0, 3)", x.split(1, 0, 3), 4);
        x.frame(12, 5);
        x.frame(35, 6);
        x.frame(11, 7);
        c.answer(x, "split(0, 3, 1)", x.split(0, 3, 1), 0);
        c.answer(x, "inspect(1, 0)", x.inspect(1, 0), 100);
        c.answer(x, "split(0, 1, 1)", x.split(0, 1, 1), 2);
        c.answer(x, "inspect(1, 0)", x.inspect(1, 0), 166);
        c.answer(x, "inspect(0, 0)", x.inspect(0, 0), 34);
        c.answer(x, "where(0)", x.where(0), 96);
        c.answer(x, "where(1)", x.where(1), 119);
        c.answer(x, "where(2)", x.where(2), 11);
        c.answer(x, "inspect(0, 3)", x.inspect(0, 3), 1);
        c.answer(x, "split(1, 0, 3)", x.split(1, 0, 3), 2);
        c.answer(x, "inspect(1, 0)", x.inspect(1, 0), 0);
        c.answer(x, "inspect(3, 0)", x.inspect(3, 0), 266);
        BeeYard z = yard(1, 0);
        c.answer(z, "split(0, 0, 1) of one BOX", z.split(0, 0, 1), 1);
        c.answer(z, "inspect(1, 0)", z.inspect(1, 0), 200);
        BeeYard y = yard(2, 0);
        y.frame(0, 64);
        for (int i = 0; i < 5; i++) {
            y.put(0, i, 400);
        }
        y.day(24);
        c.answer(y, "inspect(0, 1)", y.inspect(0, 1), 5);
        y.sample(0, 1, 2);
        y.split(0, 1, 1);
        c.answer(y, "inspect(0, 1)", y.inspect(0, 1), 3);
        c.answer(y, "inspect(1, 1)", y.inspect(1, 1), 2);
        c.answer(y, "mites(1, 1)", y.mites(1, 1), 0);
    }

    private static void thing() {
        BeeYard x = new BeeYard();
        c.refused(x, "thing(-1)", x.thing(-1), 6);
        c.refused(x, "thing(4)", x.thing(4), 6);
        c.refused(x, "thing(MIN)", x.thing(MIN), 6);
        for (int t = 0; t < 200; t++) {
            c.answer(x, "thing", x.thing(t % 4), t);
        }
        c.refused(x, "thing(0), the 201st", x.thing(0), 6);
        for (int kind = 0; kind < 4; kind++) {
            c.answer(x, "ask(kind, 0)", x.ask(kind, 0), kind);
            c.answer(x, "ask(kind, 1)", x.ask(kind, 1), 0);
            c.answer(x, "ask(kind, 8)", x.ask(kind, 8), -1);
            c.answer(x, "ask(kind, 9)", x.ask(kind, 9), -1);
            c.answer(x, "ask(kind, 10)", x.ask(kind, 10), 0);
            c.answer(x, "ask(kind, 13)", x.ask(kind, 13), -1);
            c.answer(x, "ask(kind, 14)", x.ask(kind, 14), -1);
        }
        c.answer(x, "ask(2, 11)", x.ask(2, 11), 0);
        c.answer(x, "ask(2, 12)", x.ask(2, 12), -1);
        x.undo();
        c.refused(x, "ask(199, 0)", x.ask(199, 0), 1);
        c.answer(x, "thing(1)", x.thing(1), 199);
        c.answer(x, "ask(199, 0)", x.ask(199, 0), 1);
    }

    private static void line() {
        BeeYard x = new BeeYard();
        x.thing(0);
        x.thing(1);
        x.thing(2);
        x.thing(3);
        x.thing(3);
        x.hive(10);
        x.swarm(0, 4);
        thingRefusals(x, "line", t -> x.line(t, -1, -1));
        c.refused(x, "line(-1, -1, -1)", x.line(-1, -1, -1), 2);
        thingRefusals(x, "line with mother", m -> x.line(0, m, 0));
        thingRefusals(x, "line with father", f -> x.line(0, -1, f));
        c.refused(x, "line(0, 3, 200)", x.line(0, 3, 200), 3);
        c.refused(x, "line(3, 3, -1)", x.line(3, 3, -1), 3);
        c.refused(x, "line(0, 5, -1)", x.line(0, 5, -1), 3);
        c.refused(x, "line(0, 1, 2)", x.line(0, 1, 2), 3);
        c.refused(x, "line(0, 1, 5)", x.line(0, 1, 5), 3);
        c.refused(x, "line(3, 0, 4)", x.line(3, 0, 4), 6);
        c.refused(x, "line(3, 0, 3)", x.line(3, 0, 3), 6);
        c.answer(x, "line(1, 0, 3)", x.line(1, 0, 3), 1);
        c.answer(x, "ask(1, 8)", x.ask(1, 8), 0);
        c.answer(x, "ask(1, 9)", x.ask(1, 9), 3);
        c.answer(x, "line(2, 1, -1)", x.line(2, 1, -1), 2);
        c.answer(x, "line(4, 2, -1)", x.line(4, 2, -1), 3);
        c.answer(x, "line(5, 0, 4)", x.line(5, 0, 4), 4);
        c.answer(x, "line(1, -1, 3)", x.line(1, -1, 3), 1);
        c.answer(x, "line(1, -1, -1)", x.line(1, -1, -1), 0);
        c.answer(x, "ask(2, 10)", x.ask(2, 10), 1);
        c.answer(x, "ask(5, 10)", x.ask(5, 10), 3);
        c.answer(x, "ask(1, 8)", x.ask(1, 8), -1);
        c.answer(x, "undo()", x.undo(), 1);
        c.answer(x, "ask(5, 10)", x.ask(5, 10), 4);
        c.answer(x, "ask(1, 9)", x.ask(1, 9), 3);
    }

    private static void lineRings() {
        BeeYard x = new BeeYard();
        for (int t = 0; t < 5; t++) {
            x.thing(0);
        }
        x.thing(3);
        c.refused(x, "line(0, 0, -1)", x.line(0, 0, -1), 7);
        x.line(1, 0, -1);
        x.line(5, 1, -1);
        x.line(2, -1, 5);
        x.line(3, 2, -1);
        c.refused(x, "line(0, 1, -1)", x.line(0, 1, -1), 7);
        c.refused(x, "line(0, 3, -1)", x.line(0, 3, -1), 7);
        c.refused(x, "line(0, -1, 5)", x.line(0, -1, 5), 7);
        c.refused(x, "line(0, 4, 5)", x.line(0, 4, 5), 7);
        c.refused(x, "line(5, 3, -1)", x.line(5, 3, -1), 7);
        c.answer(x, "ask(0, 8)", x.ask(0, 8), -1);
        c.answer(x, "line(4, 3, 5)", x.line(4, 3, 5), 5);
        c.answer(x, "line(3, 0, -1)", x.line(3, 0, -1), 1);
        c.answer(x, "ask(4, 10)", x.ask(4, 10), 3);
        c.answer(x, "line(0, -1, -1)", x.line(0, -1, -1), 0);
    }

    private static void lineDepthsOfFirst() {
        BeeYard x = new BeeYard();
        for (int t = 0; t < 4; t++) {
            x.thing(0);
        }
        c.answer(x, "line(0, 3, -1)", x.line(0, 3, -1), 1);
        x.undo();
        c.answer(x, "line(1, 0, -1) after undo()", x.line(1, 0, -1), 1);
        c.answer(x, "line(0, 2, -1)", x.line(0, 2, -1), 1);
        c.answer(x, "line(2, 3, -1)", x.line(2, 3, -1), 1);
        c.answer(x, "ask(0, 10)", x.ask(0, 10), 2);
        c.answer(x, "ask(1, 10)", x.ask(1, 10), 3);
        c.refused(x, "line(3, 0, -1)", x.line(3, 0, -1), 7);
        c.refused(x, "line(3, 1, -1)", x.line(3, 1, -1), 7);
    }

    private static void lineDepths() {
        BeeYard x = new BeeYard();
        for (int t = 0; t < 18; t++) {
            x.thing(0);
        }
        for (int t = 1; t < 16; t++) {
            c.answer(x, "line(t, t - 1, -1)", x.line(t, t - 1, -1), t);
        }
        c.refused(x, "line(16, 15, -1)", x.line(16, 15, -1), 6);
        c.answer(x, "ask(16, 8)", x.ask(16, 8), -1);
        c.refused(x, "line(0, 16, -1), what descends gets too deep", x.line(0, 16, -1), 6);
        c.answer(x, "ask(15, 10)", x.ask(15, 10), 15);
        c.answer(x, "line(16, 14, -1)", x.line(16, 14, -1), 15);
        c.answer(x, "line(15, -1, -1)", x.line(15, -1, -1), 0);
        c.refused(x, "line(0, 17, -1)", x.line(0, 17, -1), 6);
        c.answer(x, "line(16, -1, -1)", x.line(16, -1, -1), 0);
        c.answer(x, "line(0, 17, -1)", x.line(0, 17, -1), 1);
        c.answer(x, "ask(14, 10)", x.ask(14, 10), 15);
        c.refused(x, "line(0, 14, -1), a RING ahead of a DEPTH", x.line(0, 14, -1), 7);
    }

    private static void kin() {
        BeeYard x = new BeeYard();
        x.thing(0);
        x.thing(3);
        x.thing(1);
        x.thing(1);
        x.thing(3);
        x.thing(0);
        thingRefusals(x, "kin", t -> x.kin(t, 0));
        thingRefusals(x, "kin with", t -> x.kin(0, t));
        c.refused(x, "kin(-1, 0)", x.kin(-1, 0), 2);
        c.refused(x, "kin(199, -1)", x.kin(199, -1), 1);
        int whole = 1 << 30;
        c.answer(x, "kin(0, 0)", x.kin(0, 0), whole);
        c.answer(x, "kin(0, 1)", x.kin(0, 1), 0);
        x.line(2, 0, 1);
        x.line(3, 0, 1);
        x.line(4, 0, -1);
        c.answer(x, "kin(2, 3), sisters", x.kin(2, 3), whole / 2);
        c.answer(x, "kin(3, 2), sisters", x.kin(3, 2), whole / 2);
        c.answer(x, "kin(2, 0), a mother", x.kin(2, 0), whole / 2);
        c.answer(x, "kin(0, 2), a daughter", x.kin(0, 2), whole / 2);
        c.answer(x, "kin(4, 3), a brother", x.kin(4, 3), whole / 4);
        x.line(5, 2, 4);
        c.answer(x, "kin(5, 0)", x.kin(5, 0), whole / 2);
        c.answer(x, "kin(5, 2)", x.kin(5, 2), whole / 2 + whole / 8);
        c.answer(x, "kin(5, 5)", x.kin(5, 5), whole);
        c.answer(x, "kin(1, 5)", x.kin(1, 5), whole / 4);
        // It goes by DEPTHS, not by numbers: here the later made are the parents.
        BeeYard y = new BeeYard();
        for (int t = 0; t < 5; t++) {
            y.thing(t == 3 ? 3 : 0);
        }
        y.line(2, 4, -1);
        y.line(1, 4, 3);
        y.line(0, 2, 3);
        c.answer(y, "kin(0, 4)", y.kin(0, 4), whole / 4);
        c.answer(y, "kin(0, 1)", y.kin(0, 1), whole / 8 + whole / 4);
        c.answer(y, "kin(1, 2)", y.kin(1, 2), whole / 4);
        c.answer(y, "kin(0, 3)", y.kin(0, 3), whole / 2);
    }

    /** Two lines of 15 from one pair: the parts are exact down to the last one. */
    private static void kinDeep() {
        BeeYard x = new BeeYard();
        x.thing(0);
        for (int i = 1; i <= 30; i++) {
            x.thing(0);
        }
        x.thing(3);
        for (int i = 1; i <= 15; i++) {
            x.line(i, i == 1 ? 0 : i - 1, -1);
            x.line(15 + i, i == 1 ? 0 : 14 + i, -1);
        }
        c.answer(x, "kin(15, 30)", x.kin(15, 30), 1);
        c.answer(x, "kin(30, 15)", x.kin(30, 15), 1);
        c.answer(x, "kin(15, 29)", x.kin(15, 29), 2);
        c.answer(x, "kin(15, 0)", x.kin(15, 0), 1 << 15);
        BeeYard y = new BeeYard();
        y.thing(0);
        y.thing(3);
        for (int level = 1; level <= 15; level++) {
            y.thing(0);
            y.thing(3);
            y.line(2 * level, 2 * level - 2, 2 * level - 1);
            y.line(2 * level + 1, 2 * level - 2, -1);
        }
        long queens = 1L << 30;
        c.answer(y, "kin of the deepest queen to itself", y.kin(30, 30), (int) queens);
        long motherAndUncle = y.kin(28, 28) + (long) y.kin(29, 28);
        c.answer(y, "kin(30, 28)", y.kin(30, 28), (int) (motherAndUncle / 2));
        c.answer(y, "kin(31, 30)", y.kin(31, 30), y.kin(28, 30) / 2);
    }

    private static void ask() {
        BeeYard x = new BeeYard();
        for (int kind = 0; kind < 4; kind++) {
            x.thing(kind);
        }
        x.hive(100);
        x.hive(40);
        x.swarm(0, 4);
        x.swarm(0, 5);
        thingRefusals(x, "ask", t -> x.ask(t, 0));
        c.refused(x, "ask(-1, 15)", x.ask(-1, 15), 2);
        for (int t = 0; t < 6; t++) {
            c.answer(x, "ask(t, 0)", x.ask(t, 0), t);
            c.refused(x, "ask(t, 15)", x.ask(t, 15), 6);
            c.refused(x, "ask(t, -1)", x.ask(t, -1), 6);
            c.refused(x, "ask(t, MIN)", x.ask(t, MIN), 6);
        }
        for (int t = 3; t < 6; t++) {
            c.refused(x, "ask(t, 4)", x.ask(t, 4), 3);
            c.refused(x, "ask(t, 7)", x.ask(t, 7), 3);
        }
        for (int t : new int[] {0, 1, 3, 4, 5}) {
            c.refused(x, "ask(t, 11)", x.ask(t, 11), 3);
            c.refused(x, "ask(t, 12)", x.ask(t, 12), 3);
        }
        x.lay(2, 30);
        c.answer(x, "ask(2, 11)", x.ask(2, 11), 30);
        c.answer(x, "ask(2, 12)", x.ask(2, 12), -1);
        x.slot(1, 2);
        c.answer(x, "ask(2, 13)", x.ask(2, 13), 1);
        c.answer(x, "ask(2, 14)", x.ask(2, 14), -1);
        x.swarm(1, 4);
        c.answer(x, "ask(2, 13)", x.ask(2, 13), -1);
        c.answer(x, "ask(2, 14)", x.ask(2, 14), 6);
        c.answer(x, "ask(6, 14)", x.ask(6, 14), -1);
        int before = x.digest();
        x.ask(2, 0);
        c.is("digest() after a call that runs no BODY", x.digest(), before);
    }

    /** What the ACTS of each KIND answer, and which BODIES they run: some at a time, as each takes many calls. */
    private static void askBodies() {
        tellsBodies(sixKinds());
        carriesAndLaysBodies(sixKinds());
        truthsBodies(sixKinds());
        loadedBodies();
        oldBodies();
        oldMatedBodies();
    }

    /** THINGS 0 to 5, each of the KIND of its number but the last two, a Nucleus and then a Swarm, after 15 days. */
    private static BeeYard sixKinds() {
        BeeYard x = new BeeYard();
        for (int kind = 0; kind < 4; kind++) {
            x.thing(kind);
        }
        x.hive(9000);
        x.hive(80);
        x.swarm(0, 5);
        x.swarm(1, 4);
        x.lay(2, 10);
        x.day(15);
        return x;
    }

    private static void tellsBodies(BeeYard x) {
        runs(x, 0, 1, 15);
        runs(x, 1, 1, 30);
        runs(x, 0, 2, 1015, 3, 1);
        runs(x, 1, 2, 1030, 3, 1);
        runs(x, 2, 2, 1015, 3, 1);
        runs(x, 3, 2, -16, 8, 1);
        runs(x, 4, 2, 5015, 11, 1);
        runs(x, 5, 2, 15, 1);
    }

    private static void carriesAndLaysBodies(BeeYard x) {
        runs(x, 0, 3, 0, 2);
        runs(x, 1, 3, 0, 2);
        runs(x, 3, 3, 0, 2);
        runs(x, 4, 3, load(3000, 15), 12, 10);
        runs(x, 5, 3, load(40, 15), 10);
        runs(x, 0, 4, 5, 4);
        runs(x, 1, 4, 0, 6);
        runs(x, 2, 4, 15, 7, 4);
        x.day(1);
        runs(x, 1, 4, -5, 6, 4);
        runs(x, 1, 7, 1, 13, 6, 4);
    }

    private static void truthsBodies(BeeYard x) {
        runs(x, 0, 5, 0, 14, 3, 1);
        runs(x, 3, 5, 0, 14, 8, 1);
        runs(x, 4, 5, 1, 14, 11, 1);
        runs(x, 5, 5, 0, 14, 1);
        runs(x, 0, 6, 0, 15, 2);
        runs(x, 4, 6, 1, 15, 12, 10);
        runs(x, 5, 6, 1, 15, 10);
        runs(x, 0, 7, 1, 13, 4);
        runs(x, 1, 7, 0, 13, 6);
        runs(x, 2, 7, 1, 13, 7, 4);
    }

    private static void loadedBodies() {
        BeeYard x = new BeeYard();
        x.hive(3);
        x.swarm(0, 4);
        x.swarm(0, 5);
        runs(x, 0, 6, 1, 15, 10);
        runs(x, 1, 6, 0, 15, 12, 10);
        BeeYard y = new BeeYard();
        y.hive(9000);
        y.swarm(0, 5);
        runs(y, 0, 3, 1000, 12, 10);
        y.settle(0, 0);
        runs(y, 0, 6, 0, 15, 12, 10);
    }

    private static void oldBodies() {
        BeeYard x = new BeeYard();
        x.thing(2);
        for (int i = 0; i < 4; i++) {
            x.day(25);
        }
        runs(x, 0, 5, 0, 14, 3, 1);
        runs(x, 0, 4, 4, 7, 4);
        x.day(1);
        runs(x, 0, 5, 1, 14, 3, 1);
    }

    /** At 500 DAYS and more LAYS is 0, not less. */
    private static void oldMatedBodies() {
        BeeYard x = new BeeYard();
        x.thing(2);
        for (int i = 0; i < 20; i++) {
            x.day(25);
        }
        runs(x, 0, 4, 0, 7, 4);
        runs(x, 0, 7, 0, 13, 7, 4);
        for (int i = 0; i < 30; i++) {
            x.day(30);
        }
        runs(x, 0, 4, 0, 7, 4);
    }

    private static int load(int bees, int days) {
        int load = bees;
        for (int i = 0; i < days; i++) {
            load -= load / 10;
        }
        return load;
    }

    private static void runs(BeeYard x, int t, int what, int due, int... bodies) {
        int[] counts = new int[17];
        for (int b = 0; b < 17; b++) {
            counts[b] = x.trace(b);
        }
        for (int b : bodies) {
            counts[b]++;
        }
        c.answer(x, "ask(" + t + ", " + what + ")", x.ask(t, what), due);
        for (int b = 0; b < 17; b++) {
            c.is("trace(" + b + ") after ask(" + t + ", " + what + ")", x.trace(b), counts[b]);
        }
    }

    private static void slot() {
        BeeYard x = yard(0, 0);
        x.thing(0);
        x.thing(3);
        x.thing(1);
        hiveRefusals(x, "slot", h -> x.slot(h, 0));
        thingRefusals(x, "slot with", t -> x.slot(0, t));
        c.refused(x, "slot(39, -2)", x.slot(39, -2), 1);
        c.answer(x, "slot(0, -1)", x.slot(0, -1), -1);
        c.answer(x, "slot(0, 0)", x.slot(0, 0), -1);
        c.refused(x, "slot(1, 0)", x.slot(1, 0), 6);
        c.refused(x, "slot(0, 0)", x.slot(0, 0), 6);
        c.answer(x, "slot(0, 1)", x.slot(0, 1), 0);
        c.answer(x, "ask(0, 13)", x.ask(0, 13), -1);
        c.answer(x, "ask(1, 13)", x.ask(1, 13), 0);
        c.answer(x, "slot(1, 0)", x.slot(1, 0), -1);
        c.answer(x, "slot(0, -1)", x.slot(0, -1), 1);
        c.answer(x, "ask(1, 13)", x.ask(1, 13), -1);
        x.swarm(1, 4);
        c.refused(x, "slot(0, 0), INSIDE", x.slot(0, 0), 6);
        c.answer(x, "slot(0, 3), a Swarm", x.slot(0, 3), -1);
        c.answer(x, "slot(1, 2)", x.slot(1, 2), -1);
    }

    private static void lay() {
        BeeYard x = yard(0);
        for (int kind = 0; kind < 4; kind++) {
            x.thing(kind);
        }
        x.swarm(0, 4);
        thingRefusals(x, "lay", t -> x.lay(t, 0));
        c.refused(x, "lay(-1, 201)", x.lay(-1, 201), 2);
        for (int t : new int[] {0, 1, 3, 4}) {
            c.refused(x, "lay(t, 201)", x.lay(t, 201), 3);
        }
        c.refused(x, "lay(2, 201)", x.lay(2, 201), 6);
        c.refused(x, "lay(2, -1)", x.lay(2, -1), 6);
        c.refused(x, "lay(2, MIN)", x.lay(2, MIN), 6);
        c.answer(x, "lay(2, 200)", x.lay(2, 200), 0);
        c.answer(x, "lay(2, 0)", x.lay(2, 0), 200);
        c.answer(x, "ask(2, 11)", x.ask(2, 11), 0);
    }

    private static void mate() {
        BeeYard x = yard(0);
        for (int kind = 0; kind < 4; kind++) {
            x.thing(kind);
        }
        x.thing(3);
        x.line(1, 0, 3);
        x.slot(0, 1);
        x.day(2);
        thingRefusals(x, "mate", t -> x.mate(t, 3));
        c.refused(x, "mate(-1, 3)", x.mate(-1, 3), 2);
        for (int t : new int[] {0, 2, 3}) {
            c.refused(x, "mate(t, -1)", x.mate(t, -1), 3);
        }
        thingRefusals(x, "mate with", t -> x.mate(1, t));
        c.refused(x, "mate(1, -1)", x.mate(1, -1), 2);
        for (int t : new int[] {0, 1, 2}) {
            c.refused(x, "mate(1, t)", x.mate(1, t), 3);
        }
        c.answer(x, "mate(1, 4)", x.mate(1, 4), 1);
        c.answer(x, "ask(1, 0)", x.ask(1, 0), 2);
        c.answer(x, "ask(1, 1)", x.ask(1, 1), 4);
        c.answer(x, "ask(1, 8)", x.ask(1, 8), 0);
        c.answer(x, "ask(1, 9)", x.ask(1, 9), 3);
        c.answer(x, "ask(1, 10)", x.ask(1, 10), 1);
        c.answer(x, "ask(1, 11)", x.ask(1, 11), 0);
        c.answer(x, "ask(1, 12)", x.ask(1, 12), 4);
        c.answer(x, "ask(1, 13)", x.ask(1, 13), 0);
        c.refused(x, "mate(1, 4) again", x.mate(1, 4), 3);
        c.answer(x, "undo()", x.undo(), 1);
        c.answer(x, "ask(1, 0)", x.ask(1, 0), 1);
        c.refused(x, "ask(1, 12)", x.ask(1, 12), 3);
    }

    private static void swarm() {
        BeeYard x = yard(0, 0);
        x.hive(101);
        x.thing(0);
        hiveRefusals(x, "swarm", h -> x.swarm(h, 4));
        c.refused(x, "swarm(39, 9)", x.swarm(39, 9), 1);
        for (int kind : new int[] {-1, 0, 3, 6, MIN, MAX}) {
            c.refused(x, "swarm(2, kind)", x.swarm(2, kind), 6);
        }
        x.slot(2, 0);
        c.answer(x, "swarm(2, 5)", x.swarm(2, 5), 1);
        c.answer(x, "ask(1, 0)", x.ask(1, 0), 5);
        c.answer(x, "ask(1, 3)", x.ask(1, 3), 33);
        c.answer(x, "inspect(2, 0)", x.inspect(2, 0), 68);
        c.answer(x, "ask(0, 13), it stays", x.ask(0, 13), 2);
        x.day(1);
        c.answer(x, "inspect(2, 0)", x.inspect(2, 0), 67);
        c.answer(x, "swarm(2, 4)", x.swarm(2, 4), 2);
        c.answer(x, "ask(2, 0)", x.ask(2, 0), 4);
        c.answer(x, "ask(2, 1)", x.ask(2, 1), 0);
        c.answer(x, "ask(2, 3)", x.ask(2, 3), 33);
        c.answer(x, "inspect(2, 0)", x.inspect(2, 0), 34);
        c.answer(x, "ask(0, 13)", x.ask(0, 13), -1);
        c.answer(x, "ask(0, 14)", x.ask(0, 14), 2);
        c.answer(x, "slot(2, 2)", x.slot(2, 2), -1);
        c.answer(x, "swarm(2, 4) with a Swarm INSIDE", x.swarm(2, 4), 3);
        c.answer(x, "ask(2, 14)", x.ask(2, 14), 3);
        c.answer(x, "ask(0, 14)", x.ask(0, 14), 2);
        for (int t = 4; t < 200; t++) {
            x.thing(0);
        }
        c.refused(x, "swarm(2, 4), the 201st", x.swarm(2, 4), 6);
        c.answer(x, "inspect(2, 0)", x.inspect(2, 0), 17);
        x.undo();
        c.answer(x, "swarm(2, 4), the 200th", x.swarm(2, 4), 199);
    }

    private static void settle() {
        BeeYard x = yard(0, 0);
        x.hive(9001);
        x.thing(0);
        x.thing(1);
        x.slot(2, 0);
        x.swarm(2, 4);
        x.swarm(2, 5);
        thingRefusals(x, "settle", t -> x.settle(t, 0));
        c.refused(x, "settle(-1, 0)", x.settle(-1, 0), 2);
        c.refused(x, "settle(0, 40)", x.settle(0, 40), 3);
        c.refused(x, "settle(1, 0)", x.settle(1, 0), 3);
        hiveRefusals(x, "settle in", h -> x.settle(2, h));
        c.is("trace(10), none was run", x.trace(10), 0);
        c.answer(x, "settle(3, 0)", x.settle(3, 0), 1000);
        c.answer(x, "inspect(0, 0)", x.inspect(0, 0), 1100);
        c.answer(x, "ask(3, 3), the rest is gone", x.ask(3, 3), 0);
        c.answer(x, "settle(3, 0)", x.settle(3, 0), 0);
        c.answer(x, "settle(2, 1)", x.settle(2, 1), 4500);
        c.answer(x, "inspect(1, 0)", x.inspect(1, 0), 4600);
        c.answer(x, "ask(0, 13)", x.ask(0, 13), 1);
        c.answer(x, "ask(0, 14)", x.ask(0, 14), -1);
        c.answer(x, "ask(2, 3)", x.ask(2, 3), 0);
        c.is("trace(10)", x.trace(10), 5);
        c.is("trace(12)", x.trace(12), 3);
        c.answer(x, "slot(0, 1)", x.slot(0, 1), -1);
        x.swarm(0, 4);
        x.settle(4, 1);
        c.answer(x, "ask(0, 13), the SLOT was taken", x.ask(0, 13), 1);
        c.answer(x, "ask(1, 13)", x.ask(1, 13), -1);
        c.answer(x, "ask(1, 14)", x.ask(1, 14), -1);
        c.answer(x, "slot(0, 1)", x.slot(0, 1), -1);
    }

    private static void day() {
        BeeYard x = yard();
        c.refused(x, "day(0)", x.day(0), 6);
        c.refused(x, "day(-1)", x.day(-1), 6);
        c.refused(x, "day(31)", x.day(31), 6);
        c.refused(x, "day(MIN)", x.day(MIN), 6);
        c.answer(x, "day(1)", x.day(1), 1);
        c.answer(x, "day(30)", x.day(30), 31);
        c.answer(x, "undo()", x.undo(), 1);
        c.answer(x, "day(2)", x.day(2), 3);
    }

    private static void dayPasses() {
        BeeYard x = yard(0);
        for (int kind = 0; kind < 4; kind++) {
            x.thing(kind);
        }
        x.swarm(0, 4);
        x.swarm(0, 5);
        x.day(1);
        c.is("trace(16)", x.trace(16), 6);
        c.is("trace(0)", x.trace(0), 7);
        c.is("trace(5)", x.trace(5), 1);
        c.is("trace(9)", x.trace(9), 2);
        c.answer(x, "ask(1, 1)", x.ask(1, 1), 2);
        for (int t : new int[] {0, 2, 3, 4, 5}) {
            c.answer(x, "ask(t, 1)", x.ask(t, 1), 1);
        }
        c.answer(x, "ask(4, 3)", x.ask(4, 3), 45);
        c.answer(x, "ask(5, 3)", x.ask(5, 3), 15);
        x.day(2);
        c.answer(x, "ask(4, 3)", x.ask(4, 3), 37);
        c.answer(x, "ask(5, 3)", x.ask(5, 3), 13);
        // They PASS first: a Virgin with 30 DAYS in the morning lays with 32.
        BeeYard y = yard(1);
        y.frame(0, 20);
        y.thing(1);
        y.slot(0, 0);
        y.day(15);
        c.answer(y, "inspect(0, 7)", y.inspect(0, 7), 0);
        y.day(1);
        c.answer(y, "inspect(0, 7)", y.inspect(0, 7), 5);
        c.answer(y, "field(0, 19)", y.field(0, 19), 400);
    }

    private static void dayGrows() {
        BeeYard x = new BeeYard();
        x.hive(0);
        x.box(0);
        x.frame(0, 4);
        x.frame(1, 4);
        x.put(0, 0, 300);
        x.put(0, 1, 400);
        x.put(0, 2, 200);
        x.bring(0, 100);
        x.put(1, 3, 300);
        x.out(1);
        x.day(20);
        c.answer(x, "field(0, 0)", x.field(0, 0), 320);
        c.answer(x, "field(0, 1)", x.field(0, 1), 420);
        c.answer(x, "inspect(0, 0)", x.inspect(0, 0), 0);
        x.day(1);
        c.answer(x, "field(0, 0)", x.field(0, 0), 0);
        c.answer(x, "inspect(0, 0)", x.inspect(0, 0), 1);
        c.answer(x, "inspect(0, 1)", x.inspect(0, 1), 0);
        x.day(2);
        c.answer(x, "field(0, 1)", x.field(0, 1), 423);
        x.day(1);
        c.answer(x, "field(0, 1)", x.field(0, 1), 0);
        c.answer(x, "inspect(0, 1)", x.inspect(0, 1), 1);
        c.answer(x, "inspect(0, 0)", x.inspect(0, 0), 1);
        c.answer(x, "field(0, 2)", x.field(0, 2), 200);
        c.answer(x, "field(0, 3)", x.field(0, 3), 100);
        c.answer(x, "inspect(0, 2)", x.inspect(0, 2), 5);
        x.back(0, 1);
        c.answer(x, "field(1, 3), on the BENCH none grows", x.field(1, 3), 300);
    }

    private static void dayLays() {
        BeeYard x = new BeeYard();
        x.hive(0);
        x.box(0);
        x.box(0);
        int[] order = {6, 5, 7, 4, 8, 3, 9, 2, 10, 1, 11, 0};
        for (int p = 0; p < 24; p++) {
            x.frame(p, 1);
        }
        x.thing(0);
        x.slot(0, 0);
        for (int day = 0; day < 4; day++) {
            x.day(1);
            for (int k = 0; k < 24; k++) {
                int p = k / 12 * 12 + order[k % 12];
                int due = k < 5 * (day + 1) ? 300 + day - k / 5 : 0;
                c.answer(x, "field(" + p + ", 0) on day " + day, x.field(p, 0), due);
            }
        }
        x.day(1);
        c.answer(x, "inspect(0, 10)", x.inspect(0, 10), 0);
        x.day(1);
        c.answer(x, "inspect(0, 7), none was EMPTY", x.inspect(0, 7), 9);
        BeeYard y = new BeeYard();
        y.hive(0);
        y.box(0);
        y.frame(6, 64);
        y.frame(5, 2);
        y.put(6, 31, 200);
        y.thing(2);
        y.lay(0, 57);
        y.slot(0, 0);
        y.day(1);
        for (int i = 0; i < 64; i++) {
            c.answer(y, "field(6, i)", y.field(6, i), i == 31 ? 200 : i == 0 ? 0 : 300);
        }
        y.day(1);
        c.answer(y, "field(6, 0)", y.field(6, 0), 300);
        c.answer(y, "field(5, 1)", y.field(5, 1), 300);
        fieldOrder();
        findings();
    }

    private static void fieldOrder() {
        BeeYard x = new BeeYard();
        x.hive(0);
        x.box(0);
        x.frame(6, 64);
        x.thing(0);
        x.slot(0, 0);
        x.day(1);
        for (int i = 0; i < 64; i++) {
            c.answer(x, "field(6, " + i + ")", x.field(6, i), i >= 30 && i <= 34 ? 300 : 0);
        }
        x.put(6, 32, 0);
        x.day(1);
        for (int i = 0; i < 64; i++) {
            boolean first = i >= 30 && i <= 34 && i != 32;
            int due = first ? 301 : i >= 28 && i <= 36 ? 300 : 0;
            c.answer(x, "the second day's field(6, " + i + ")", x.field(6, i), due);
        }
        BeeYard y = new BeeYard();
        y.hive(0);
        y.box(0);
        y.frame(0, 34);
        y.thing(0);
        y.slot(0, 0);
        y.day(1);
        for (int i = 0; i < 34; i++) {
            c.answer(y, "field(0, " + i + ") of 34", y.field(0, i), i >= 29 ? 300 : 0);
        }
    }

    private static void findings() {
        BeeYard y = yard(1, 1);
        y.frame(0, 9);
        y.frame(96, 9);
        y.thing(3);
        y.slot(1, 0);
        y.day(3);
        c.answer(y, "inspect(0, 10), no Queen", y.inspect(0, 10), 9);
        c.answer(y, "inspect(1, 10), a Drone", y.inspect(1, 10), 9);
        BeeYard x = yard(0, 0, 0);
        c.answer(x, "inspect(0, 4) at first", x.inspect(0, 4), 0);
        x.thing(0);
        x.thing(3);
        x.slot(0, 0);
        x.slot(1, 1);
        x.day(1);
        c.answer(x, "inspect(0, 4)", x.inspect(0, 4), 0);
        c.answer(x, "inspect(1, 4)", x.inspect(1, 4), 3);
        c.answer(x, "inspect(2, 4)", x.inspect(2, 4), 1);
        c.is("trace(4)", x.trace(4), 1);
        x.slot(0, -1);
        x.slot(1, 0);
        x.day(1);
        c.answer(x, "inspect(0, 4)", x.inspect(0, 4), 1);
        c.answer(x, "inspect(1, 4)", x.inspect(1, 4), 0);
    }

    private static void dayLaysDrones() {
        BeeYard x = yard(1);
        x.frame(6, 3);
        x.frame(5, 64);
        x.thing(1);
        x.slot(0, 0);
        x.day(16);
        c.answer(x, "field(6, 0)", x.field(6, 0), 400);
        c.answer(x, "field(6, 2)", x.field(6, 2), 400);
        c.answer(x, "field(5, 32)", x.field(5, 32), 400);
        c.answer(x, "field(5, 31)", x.field(5, 31), 400);
        c.answer(x, "field(5, 33)", x.field(5, 33), 0);
        c.is("trace(6)", x.trace(6), 16);
        c.is("trace(4)", x.trace(4), 1);
    }

    private static void dayEats() {
        BeeYard x = new BeeYard();
        x.hive(250);
        x.box(0);
        x.box(0);
        x.frame(12, 2);
        x.frame(3, 2);
        x.bring(0, 300);
        x.put(3, 0, 200);
        x.day(1);
        c.answer(x, "inspect(0, 2)", x.inspect(0, 2), 50);
        c.answer(x, "honey(2)", x.honey(2), 2);
        c.answer(x, "field(3, 1)", x.field(3, 1), 98);
        c.answer(x, "field(12, 0)", x.field(12, 0), 100);
        c.answer(x, "inspect(0, 0)", x.inspect(0, 0), 244);
        x.day(1);
        c.answer(x, "inspect(0, 2)", x.inspect(0, 2), 94);
        c.answer(x, "honey(2)", x.honey(2), 4);
        c.answer(x, "field(3, 1)", x.field(3, 1), 96);
        BeeYard y = new BeeYard();
        y.hive(20000);
        y.box(0);
        y.frame(0, 3);
        y.frame(1, 3);
        y.bring(0, 450);
        y.put(0, 1, 300);
        y.day(1);
        c.answer(y, "field(0, 0)", y.field(0, 0), 0);
        c.answer(y, "field(0, 1)", y.field(0, 1), 301);
        c.answer(y, "field(0, 2)", y.field(0, 2), 0);
        c.answer(y, "field(1, 0)", y.field(1, 0), 100);
        c.answer(y, "honey(2)", y.honey(2), 200);
        c.answer(y, "inspect(0, 0)", y.inspect(0, 0), 19500);
        c.answer(y, "inspect(0, 2)", y.inspect(0, 2), 0);
        BeeYard w = new BeeYard();
        w.hive(15000);
        w.box(0);
        w.frame(0, 1);
        w.frame(1, 9);
        w.bring(0, 500);
        w.day(1);
        c.answer(w, "field(0, 0)", w.field(0, 0), 0);
        c.answer(w, "field(1, 0)", w.field(1, 0), 50);
        c.answer(w, "field(1, 1)", w.field(1, 1), 100);
        c.answer(w, "honey(2)", w.honey(2), 150);
        // DRONES eat, too.
        BeeYard z = new BeeYard();
        z.hive(0);
        z.box(0);
        z.frame(0, 64);
        for (int i = 0; i < 64; i++) {
            z.put(0, i, 400);
        }
        z.day(24);
        c.answer(z, "inspect(0, 2)", z.inspect(0, 2), 64);
        c.answer(z, "inspect(0, 1)", z.inspect(0, 1), 64);
        z.bring(0, 10);
        z.day(1);
        c.answer(z, "honey(2)", z.honey(2), 1);
        c.answer(z, "inspect(0, 2)", z.inspect(0, 2), 28);
        c.answer(z, "inspect(0, 1)", z.inspect(0, 1), 64);
    }

    private static void dayStarves() {
        BeeYard x = new BeeYard();
        x.hive(1050);
        x.box(0);
        x.frame(0, 1);
        x.bring(0, 7);
        x.day(1);
        c.answer(x, "honey(2)", x.honey(2), 7);
        c.answer(x, "inspect(0, 2)", x.inspect(0, 2), 50);
        c.answer(x, "inspect(0, 0)", x.inspect(0, 0), 750 - 18);
        x.day(1);
        c.answer(x, "inspect(0, 0)", x.inspect(0, 0), 32);
        c.answer(x, "inspect(0, 2)", x.inspect(0, 2), 82);
        x.day(1);
        c.answer(x, "inspect(0, 0), as many as there are", x.inspect(0, 0), 0);
        c.answer(x, "inspect(0, 2)", x.inspect(0, 2), 14);
        BeeYard y = new BeeYard();
        y.hive(39);
        y.hive(40);
        y.day(1);
        c.answer(y, "inspect(0, 0)", y.inspect(0, 0), 39);
        c.answer(y, "inspect(1, 0)", y.inspect(1, 0), 39);
    }

    private static void share() {
        BeeYard x = new BeeYard();
        x.hive(103);
        hiveRefusals(x, "share", h -> x.share(h, 1));
        c.refused(x, "share(39, 101)", x.share(39, 101), 1);
        c.refused(x, "share(0, 101)", x.share(0, 101), 6);
        c.refused(x, "share(0, MAX)", x.share(0, MAX), 6);
        c.refused(x, "share(0, -1)", x.share(0, -1), 5);
        c.refused(x, "share(0, MIN)", x.share(0, MIN), 5);
        c.refused(x, "share(0, 0)", x.share(0, 0), 4);
        c.refused(x, "shared(0), none was made", x.shared(0), 1);
        c.answer(x, "share(0, 1)", x.share(0, 1), 103);
        c.answer(x, "share(0, 100)", x.share(0, 100), 1);
        for (int i = 0; i < 100; i++) {
            c.answer(x, "shared(i)", x.shared(i), i < 3 ? 2 : 1);
        }
        c.answer(x, "share(0, 5)", x.share(0, 5), 20);
        c.answer(x, "inspect(0, 0)", x.inspect(0, 0), 103);
    }

    private static void shared() {
        BeeYard x = new BeeYard();
        x.hive(11);
        c.refused(x, "shared(-1)", x.shared(-1), 1);
        x.share(0, 4);
        int[] parts = {3, 3, 3, 2};
        for (int i = 0; i < 4; i++) {
            c.answer(x, "shared(" + i + ")", x.shared(i), parts[i]);
        }
        c.refused(x, "shared(4)", x.shared(4), 2);
        c.refused(x, "shared(-1)", x.shared(-1), 2);
        c.refused(x, "shared(MAX)", x.shared(MAX), 2);
        x.share(0, 0);
        c.answer(x, "shared(3) after a refused share()", x.shared(3), 2);
        x.undo();
        c.answer(x, "shared(3) after undo()", x.shared(3), 2);
        x.hive(1);
        x.share(0, 2);
        c.answer(x, "shared(0)", x.shared(0), 1);
        c.answer(x, "shared(1)", x.shared(1), 0);
        c.refused(x, "shared(2)", x.shared(2), 2);
    }

    private static void sample() {
        BeeYard x = yard(0, 0);
        hiveRefusals(x, "sample", h -> x.sample(h, 1, 1));
        c.refused(x, "sample(39, -1, 0)", x.sample(39, -1, 0), 1);
        c.refused(x, "sample(0, -1, 0)", x.sample(0, -1, 0), 6);
        c.refused(x, "sample(0, 10001, 1)", x.sample(0, 10001, 1), 6);
        c.refused(x, "sample(0, 1, -1)", x.sample(0, 1, -1), 6);
        c.refused(x, "sample(0, 1, 10001)", x.sample(0, 1, 10001), 6);
        c.refused(x, "sample(0, 1, 0)", x.sample(0, 1, 0), 4);
        c.answer(x, "sample(0, 10000, 10000)", x.sample(0, 10000, 10000), 1);
        c.answer(x, "sample(0, 0, 1)", x.sample(0, 0, 1), 2);
        c.answer(x, "sample(1, 5, 1)", x.sample(1, 5, 1), 1);
        c.answer(x, "mites(0, 0)", x.mites(0, 0), 10000);
        c.answer(x, "mites(0, 1)", x.mites(0, 1), 10001);
    }

    private static void mites() {
        BeeYard x = yard(0, 0);
        hiveRefusals(x, "mites", h -> x.mites(h, 0));
        c.refused(x, "mites(0, 4)", x.mites(0, 4), 6);
        c.refused(x, "mites(0, -1)", x.mites(0, -1), 6);
        c.refused(x, "mites(0, 2)", x.mites(0, 2), 4);
        c.refused(x, "mites(0, 3)", x.mites(0, 3), 4);
        c.answer(x, "mites(0, 0)", x.mites(0, 0), 0);
        c.answer(x, "mites(0, 1)", x.mites(0, 1), 0);
        x.sample(0, 84, 36);
        c.answer(x, "mites(0, 0)", x.mites(0, 0), 84);
        c.answer(x, "mites(0, 1)", x.mites(0, 1), 36);
        c.answer(x, "mites(0, 2)", x.mites(0, 2), 7);
        c.answer(x, "mites(0, 3)", x.mites(0, 3), 3);
        x.sample(1, 0, 77);
        c.answer(x, "mites(1, 2)", x.mites(1, 2), 0);
        c.answer(x, "mites(1, 3)", x.mites(1, 3), 1);
    }

    private static void compare() {
        BeeYard x = yard(0, 0, 0);
        hiveRefusals(x, "compare", h -> x.compare(h, 0));
        hiveRefusals(x, "compare with", g -> x.compare(0, g));
        c.refused(x, "compare(39, -1)", x.compare(39, -1), 1);
        x.sample(0, 1, 3);
        c.refused(x, "compare(0, 1)", x.compare(0, 1), 4);
        c.refused(x, "compare(1, 0)", x.compare(1, 0), 4);
        c.refused(x, "compare(1, 1)", x.compare(1, 1), 4);
        x.sample(1, 3333, 9999);
        c.answer(x, "compare(0, 1)", x.compare(0, 1), 1);
        c.answer(x, "compare(0, 0)", x.compare(0, 0), 1);
        x.sample(1, 1, 1);
        c.answer(x, "compare(0, 1)", x.compare(0, 1), 0);
        c.answer(x, "compare(1, 0)", x.compare(1, 0), 2);
        // Shares that lie nearer than the products of ints can tell.
        BeeYard y = yard(0, 0);
        for (int i = 0; i < 100; i++) {
            y.sample(0, 9999, 10000);
            y.sample(1, 9999, 10000);
        }
        c.answer(y, "compare(0, 1)", y.compare(0, 1), 1);
        y.sample(0, 1, 1);
        c.answer(y, "compare(0, 1)", y.compare(0, 1), 2);
        c.answer(y, "compare(1, 0)", y.compare(1, 0), 0);
    }

    private static void treat() {
        BeeYard x = yard(0, 0);
        hiveRefusals(x, "treat", h -> x.treat(h));
        x.sample(0, 3, 4);
        x.sample(1, 3, 4);
        x.due(0, 3, 4);
        c.answer(x, "treat(0)", x.treat(0), 1);
        c.answer(x, "mites(0, 0)", x.mites(0, 0), 0);
        c.answer(x, "mites(0, 1)", x.mites(0, 1), 0);
        c.answer(x, "mites(1, 0)", x.mites(1, 0), 3);
        c.refused(x, "plan(1, 1), the TREATING stays", x.plan(1, 1), 4);
        c.answer(x, "sample(0, 1, 1)", x.sample(0, 1, 1), 1);
        c.answer(x, "treat(0)", x.treat(0), 1);
        c.answer(x, "treat(0) again", x.treat(0), 1);
    }

    private static void due() {
        BeeYard x = yard(0, 0);
        hiveRefusals(x, "due", h -> x.due(h, 1, 1));
        c.refused(x, "due(39, 0, 1)", x.due(39, 0, 1), 1);
        int[][] wrong = {{0, 1}, {1, 0}, {31, 1}, {-1, 1}, {1, 1001}, {1, -1}, {-1, -1}, {MIN, MIN}, {0, MIN}};
        for (int[] w : wrong) {
            c.refused(x, "due(0, " + w[0] + ", " + w[1] + ")", x.due(0, w[0], w[1]), 6);
        }
        c.answer(x, "due(0, 0, 0)", x.due(0, 0, 0), 1);
        c.answer(x, "plan(0, 0), no TREATING", x.plan(0, 0), 0);
        c.answer(x, "due(0, 30, 1000)", x.due(0, 30, 1000), 1);
        c.refused(x, "plan(1, 1)", x.plan(1, 1), 4);
        x.sample(0, 1, 1);
        c.answer(x, "plan(0, 1)", x.plan(0, 1), 30);
        c.answer(x, "due(0, 1, 1)", x.due(0, 1, 1), 1);
        c.answer(x, "plan(0, 1)", x.plan(0, 1), 1);
        c.answer(x, "undo()", x.undo(), 1);
        c.answer(x, "plan(0, 1)", x.plan(0, 1), 30);
        c.answer(x, "due(0, 0, 0)", x.due(0, 0, 0), 1);
        c.answer(x, "plan(0, 1)", x.plan(0, 1), 0);
    }

    private static void plan() {
        BeeYard x = yard(0, 0, 0, 0, 0, 0, 0, 0, 0, 0);
        for (int wrong : new int[] {-1, 10001, MIN, MAX}) {
            c.refused(x, "plan(wrong, 1)", x.plan(wrong, 1), 6);
            c.refused(x, "plan(1, wrong)", x.plan(1, wrong), 6);
        }
        c.answer(x, "plan(0, 0) of none", x.plan(0, 0), 0);
        c.refused(x, "chosen(0)", x.chosen(0), 2);
        for (int h = 0; h < 8; h++) {
            x.due(9 - h, 30, 1);
            x.sample(9 - h, 0, 1);
        }
        c.refused(x, "plan(1, 0)", x.plan(1, 0), 4);
        // Each is OVER from day 1 on: of 30, 60, .. 240 days all but one each.
        c.answer(x, "plan(0, 1)", x.plan(0, 1), 30 * 36 - 8);
        for (int i = 0; i < 8; i++) {
            c.answer(x, "chosen(i)", x.chosen(i), i + 2);
        }
        c.answer(x, "plan(10000, 1), never OVER in time", x.plan(10000, 1), 0);
        x.due(0, 1, 1);
        c.refused(x, "plan(1, 0), nine", x.plan(1, 0), 8);
        c.refused(x, "plan(-1, 0), nine", x.plan(-1, 0), 6);
        x.due(9, 0, 0);
        c.refused(x, "plan(1, 1), one has no WASHED", x.plan(1, 1), 4);
        BeeYard y = yard(0);
        y.due(0, 30, 7);
        for (int i = 0; i < 60; i++) {
            y.sample(0, 0, 10000);
        }
        // 7 * k * 10000 is above a * 600000 from k = a * 60 / 7 on, and k * 7 = a * 60 is not above.
        c.answer(y, "plan(1, 10000)", y.plan(1, 10000), 30 - 9);
        c.answer(y, "plan(0, 10000)", y.plan(0, 10000), 30 - 1);
        c.refused(y, "plan(1, 0) of one", y.plan(1, 0), 4);
        c.answer(y, "plan(10000, 1), beyond an int", y.plan(10000, 1), 0);
        y.sample(0, 4, 1);
        y.sample(0, 0, 9999);
        c.answer(y, "plan(7, 10000): 4 + 7 * k above 427", y.plan(7, 10000), 0);
        c.answer(y, "plan(2, 10000): 4 + 7 * k above 122", y.plan(2, 10000), 30 - 17);
        BeeYard z = yard(0);
        z.due(0, 10, 5);
        z.sample(0, 10, 100);
        c.answer(z, "plan(2, 10): 10 + 5 * k above 20", z.plan(2, 10), 7);
        c.answer(z, "plan(1, 10): 10 + 5 * k above 10", z.plan(1, 10), 9);
        c.answer(z, "plan(9, 100): 10 is above 9", z.plan(9, 100), 10);
        c.answer(z, "plan(6, 10): 10 + 5 * k above 60", z.plan(6, 10), 0);
    }

    private static void planOrders() {
        // The shortest first, if all are OVER at once.
        BeeYard x = yard(0, 0, 0, 0);
        int[] days = {9, 2, 30, 1};
        for (int h = 0; h < 4; h++) {
            x.due(h, days[h], 1);
            x.sample(h, 1, 1);
        }
        c.answer(x, "plan(0, 1)", x.plan(0, 1), 1 + 3 + 12 + 42);
        int[] order = {3, 1, 0, 2};
        for (int i = 0; i < 4; i++) {
            c.answer(x, "chosen(" + i + ")", x.chosen(i), order[i]);
        }
        // Of like ones the least first HIVE: 0 ahead of 1 costs the same as behind it.
        BeeYard y = yard(0, 0, 0);
        y.due(0, 3, 1);
        y.due(1, 3, 1);
        y.due(2, 1, 1);
        for (int h = 0; h < 3; h++) {
            y.sample(h, 0, 100);
        }
        c.answer(y, "plan(5, 100)", y.plan(5, 100), 1);
        c.answer(y, "chosen(0)", y.chosen(0), 0);
        c.answer(y, "chosen(1)", y.chosen(1), 1);
        c.answer(y, "chosen(2)", y.chosen(2), 2);
    }

    private static void chosen() {
        BeeYard x = yard(0, 0, 0);
        c.refused(x, "chosen(-1)", x.chosen(-1), 1);
        x.due(2, 1, 1);
        x.due(1, 5, 1);
        x.sample(1, 1, 1);
        c.refused(x, "plan(0, 1)", x.plan(0, 1), 4);
        c.refused(x, "chosen(0), none was made", x.chosen(0), 1);
        x.sample(2, 1, 1);
        x.plan(0, 1);
        c.answer(x, "chosen(0)", x.chosen(0), 2);
        c.answer(x, "chosen(1)", x.chosen(1), 1);
        c.refused(x, "chosen(2)", x.chosen(2), 2);
        c.refused(x, "chosen(-1)", x.chosen(-1), 2);
        c.refused(x, "chosen(MIN)", x.chosen(MIN), 2);
        x.plan(0, 0);
        x.undo();
        c.answer(x, "chosen(1) after a refused plan() and undo()", x.chosen(1), 1);
        x.due(1, 0, 0);
        x.sample(2, 1, 1);
        x.plan(0, 1);
        c.answer(x, "chosen(0)", x.chosen(0), 2);
        c.refused(x, "chosen(1)", x.chosen(1), 2);
    }

    private static void inspect() {
        BeeYard x = new BeeYard();
        x.hive(40);
        x.hive(77);
        x.box(0);
        x.box(0);
        x.box(1);
        hiveRefusals(x, "inspect", h -> x.inspect(h, 0));
        c.refused(x, "inspect(39, 12)", x.inspect(39, 12), 1);
        c.refused(x, "inspect(0, 12)", x.inspect(0, 12), 6);
        c.refused(x, "inspect(0, -1)", x.inspect(0, -1), 6);
        c.refused(x, "inspect(0, MAX)", x.inspect(0, MAX), 6);
        x.frame(0, 10);
        x.frame(23, 10);
        x.frame(96, 10);
        x.put(0, 0, 300);
        x.put(23, 0, 400);
        x.put(23, 1, 200);
        x.put(96, 0, 200);
        x.bring(0, 150);
        x.bring(1, 33);
        int[] due = {40, 0, 0, 2, 0, 22, 150, 2, 0, 0, 15, 1};
        for (int what = 0; what < 12; what++) {
            c.answer(x, "inspect(0, " + what + ")", x.inspect(0, what), due[what]);
        }
        c.answer(x, "inspect(1, 0)", x.inspect(1, 0), 77);
        c.answer(x, "inspect(1, 6)", x.inspect(1, 6), 33);
        stages(x, 2, 7);
        stages(x, 3, 8);
        stages(x, 8, 8);
        stages(x, 9, 9);
        stages(x, 20, 9);
        x.day(21);
        c.answer(x, "inspect(0, 9), a drone's YOUNG is left", x.inspect(0, 9), 1);
    }

    private static void stages(BeeYard x, int days, int what) {
        x.day(days);
        for (int w = 7; w <= 9; w++) {
            c.answer(x, "inspect(0, " + w + ") after " + days + " days", x.inspect(0, w), w == what ? 2 : 0);
        }
        x.undo();
    }

    private static void gap() {
        BeeYard x = yard(0, 2);
        hiveRefusals(x, "gap", h -> x.gap(h));
        c.answer(x, "gap(0), no BOX", x.gap(0), -1);
        c.answer(x, "gap(1)", x.gap(1), 96);
        for (int i = 0; i < 24; i++) {
            c.answer(x, "gap(1)", x.gap(1), 96 + i);
            x.frame(96 + i, 1);
        }
        c.answer(x, "gap(1), none", x.gap(1), -1);
        x.out(100);
        c.answer(x, "gap(1)", x.gap(1), 100);
    }

    private static void find() {
        BeeYard x = yard(2, 0, 1);
        for (int wrong : new int[] {-1, 3840, MIN, MAX}) {
            c.refused(x, "find(0, wrong)", x.find(0, wrong), 2);
        }
        c.answer(x, "find(0, 0), no FRAME", x.find(0, 0), -1);
        x.frame(203, 3);
        x.frame(13, 0);
        x.frame(14, 4);
        c.answer(x, "find(0, 0)", x.find(0, 0), 14);
        c.answer(x, "find(0, 14)", x.find(0, 14), 14);
        c.answer(x, "find(0, 15)", x.find(0, 15), 203);
        c.answer(x, "find(0, 204)", x.find(0, 204), -1);
        c.answer(x, "find(0, 3839)", x.find(0, 3839), -1);
        x.put(203, 2, 300);
        x.day(7);
        c.answer(x, "find(307, 0)", x.find(307, 0), 203);
        c.answer(x, "find(300, 0)", x.find(300, 0), -1);
        c.answer(x, "find(-1, 0)", x.find(-1, 0), -1);
        c.answer(x, "find(MIN, 0)", x.find(MIN, 0), -1);
        x.put(14, 0, 200);
        x.put(14, 3, 400);
        c.answer(x, "find(200, 0)", x.find(200, 0), 14);
        c.answer(x, "find(400, 0)", x.find(400, 0), 14);
        x.out(203);
        c.answer(x, "find(307, 0), on the BENCH", x.find(307, 0), -1);
    }

    private static void export() {
        BeeYard x = yard(1);
        x.frame(1, 10);
        x.frame(2, 0);
        placeRefusals(x, "export", p -> x.export(p));
        c.refused(x, "export(0)", x.export(0), 1);
        c.refused(x, "letter(0), none was made", x.letter(0), 1);
        x.put(1, 0, 300);
        x.put(1, 1, 400);
        x.day(6);
        x.put(1, 2, 300);
        x.put(1, 3, 400);
        x.day(3);
        x.put(1, 4, 300);
        x.put(1, 5, 400);
        x.put(1, 6, 200);
        x.bring(0, 101);
        row(x, 1, "sSbBeEphh.");
        x.day(2);
        row(x, 1, "sSbBeEphh.");
        x.day(1);
        row(x, 1, "sSbBbBphh.");
        x.day(3);
        row(x, 1, "sSsSbBphh.");
        c.answer(x, "export(2)", x.export(2), 0);
        c.refused(x, "letter(0) of none", x.letter(0), 2);
    }

    private static void row(BeeYard x, int p, String due) {
        c.answer(x, "export(" + p + ")", x.export(p), due.length());
        letters(x, due);
    }

    private static void letters(BeeYard x, String due) {
        for (int i = 0; i < due.length(); i++) {
            c.answer(x, "letter(" + i + ")", x.letter(i), due.charAt(i));
        }
        c.refused(x, "letter(" + due.length() + ")", x.letter(due.length()), 2);
    }

    private static void letter() {
        BeeYard x = yard(1);
        x.frame(1, 64);
        x.frame(2, 2);
        c.refused(x, "letter(-1)", x.letter(-1), 1);
        x.export(1);
        c.answer(x, "letter(63)", x.letter(63), '.');
        c.refused(x, "letter(64)", x.letter(64), 2);
        c.refused(x, "letter(-1)", x.letter(-1), 2);
        c.refused(x, "letter(MAX)", x.letter(MAX), 2);
        x.put(1, 0, 200);
        c.answer(x, "letter(0), as it was", x.letter(0), '.');
        x.export(2);
        c.answer(x, "letter(1)", x.letter(1), '.');
        c.refused(x, "letter(2)", x.letter(2), 2);
        x.export(1);
        x.undo();
        c.answer(x, "letter(0) after undo()", x.letter(0), 'p');
        x.export(0);
        c.answer(x, "letter(0) after a refused export()", x.letter(0), 'p');
    }

    private static void copy() {
        BeeYard x = yard(1);
        x.frame(1, 5);
        x.put(1, 0, 200);
        x.put(1, 1, 300);
        x.put(1, 2, 400);
        c.refused(x, "copy(-1, -1, -1)", x.copy(-1, -1, -1), 1);
        x.export(1);
        letters(x, "peE..");
        int[][] wrong = {{0, 0, -1}, {-1, 0, 0}, {0, -1, 0}, {6, 0, 0}, {0, 6, 0}, {5, 0, 1}, {0, 5, 1}, {3, 0, 3},
            {0, 3, 3}, {0, 0, 6}, {MAX, MAX, MAX}, {1, 1, MAX}, {MIN, MIN, MIN}, {0, 0, MIN}};
        for (int[] w : wrong) {
            c.refused(x, "copy(" + w[0] + ", " + w[1] + ", " + w[2] + ")", x.copy(w[0], w[1], w[2]), 2);
        }
        letters(x, "peE..");
        c.answer(x, "copy(5, 5, 0)", x.copy(5, 5, 0), 0);
        c.answer(x, "copy(0, 0, 5)", x.copy(0, 0, 5), 5);
        letters(x, "peE..");
        c.answer(x, "copy(0, 1, 4)", x.copy(0, 1, 4), 4);
        letters(x, "ppeE.");
        c.answer(x, "copy(1, 0, 4)", x.copy(1, 0, 4), 4);
        letters(x, "peE..");
        c.answer(x, "copy(1, 3, 2)", x.copy(1, 3, 2), 2);
        letters(x, "peEeE");
        c.answer(x, "field(1, 3), the FRAME stays", x.field(1, 3), 0);
        c.answer(x, "undo() takes back put(), not copy()", x.undo(), 1);
        letters(x, "peEeE");
    }

    private static void trace() {
        BeeYard x = yard(0);
        x.thing(0);
        x.ask(0, 99);
        for (int b : new int[] {-1, 17, MIN, MAX}) {
            c.is("trace(" + b + ")", x.trace(b), 0);
        }
        c.is("status() is left by trace()", x.status(), 6);
        x.day(30);
        c.is("trace(0)", x.trace(0), 30);
        c.is("trace(16)", x.trace(16), 30);
        x.undo();
        c.is("trace(0) after undo()", x.trace(0), 30);
        c.is("trace(16) after undo()", x.trace(16), 30);
        x.ask(0, 5);
        c.is("trace(14)", x.trace(14), 1);
        c.is("trace(3)", x.trace(3), 1);
        c.is("trace(1)", x.trace(1), 1);
    }

    private static void undo() {
        BeeYard x = new BeeYard();
        c.answer(x, "undo()", x.undo(), 0);
        x.hive(3);
        x.hive(4);
        c.answer(x, "undo()", x.undo(), 1);
        c.answer(x, "undo(), one step alone", x.undo(), 0);
        c.answer(x, "inspect(0, 0)", x.inspect(0, 0), 3);
        c.refused(x, "inspect(1, 0)", x.inspect(1, 0), 1);
        c.answer(x, "undo(), still", x.undo(), 0);
        c.answer(x, "hive(5)", x.hive(5), 1);
        c.refused(x, "box(7)", x.box(7), 1);
        c.answer(x, "undo() of what was not refused", x.undo(), 1);
        c.refused(x, "inspect(1, 0)", x.inspect(1, 0), 1);
        x.box(0);
        x.frame(0, 5);
        x.export(0);
        x.share(0, 2);
        x.inspect(0, 0);
        c.answer(x, "undo(), none of these was a CHANGE", x.undo(), 1);
        c.refused(x, "at(0)", x.at(0), 1);
        c.answer(x, "frame(0, 2) in place of the one taken back", x.frame(0, 2), 0);
        c.refused(x, "field(0, 2)", x.field(0, 2), 2);
    }

    /** What was taken back leaves nothing in what is made with its number later. */
    private static void undoneNumbers() {
        BeeYard x = yard(1, 0);
        x.frame(0, 9);
        x.thing(0);
        x.thing(2);
        for (int i = 0; i < 3; i++) {
            x.slot(0, 0);
            c.answer(x, "swarm(0, 4)", x.swarm(0, 4), 2);
            x.undo();
            c.answer(x, "swarm(1, 5)", x.swarm(1, 5), 2);
            c.answer(x, "ask(0, 14)", x.ask(0, 14), -1);
            x.undo();
            c.answer(x, "thing(1)", x.thing(1), 2);
            c.answer(x, "ask(0, 14)", x.ask(0, 14), -1);
            c.answer(x, "ask(2, 3)", x.ask(2, 3), 0);
            x.undo();
            c.answer(x, "slot(0, -1)", x.slot(0, -1), 0);
        }
    }

    /** One of each CHANGE on a yard with all sorts of things: digest() and what it does not tell are as they were. */
    private static void undoOfEach() {
        int[] counts = {0};
        undone(counts, "hive", x -> x.hive(1));
        undone(counts, "box", x -> x.box(0));
        undone(counts, "frame", x -> x.frame(3, 1));
        undone(counts, "out", x -> x.out(1));
        undone(counts, "back", x -> x.back(0, 3));
        undone(counts, "put", x -> x.put(1, 0, 200));
        undone(counts, "bring", x -> x.bring(0, 10000));
        undone(counts, "harvest", x -> x.harvest(1));
        undone(counts, "move", x -> x.move(1, 96, 1));
        undone(counts, "stack", x -> x.stack(0, 1));
        undone(counts, "join", x -> x.join(0, 1));
        undone(counts, "split", x -> x.split(0, 1, 2));
        undone(counts, "thing", x -> x.thing(1));
        undone(counts, "line", x -> x.line(2, 0, 3));
        undone(counts, "slot", x -> x.slot(0, -1));
        undone(counts, "lay", x -> x.lay(2, 77));
        undone(counts, "mate", x -> x.mate(5, 3));
        undone(counts, "swarm", x -> x.swarm(0, 4));
        undone(counts, "settle", x -> x.settle(4, 2));
        undone(counts, "sample", x -> x.sample(0, 1, 1));
        undone(counts, "treat", x -> x.treat(0));
        undone(counts, "due", x -> x.due(0, 30, 2));
        c.is("CHANGES without day()", counts[0], 22);
        BeeYard x = rich();
        String was = told(x);
        c.answer(x, "day(30)", x.day(30), 58);
        x.undo();
        c.is("all is as it was ahead of day()", told(x).equals(was) ? 1 : 0, 1);
    }

    private static BeeYard rich() {
        BeeYard x = yard(2, 1, 0);
        x.frame(1, 8);
        x.frame(96, 9);
        x.frame(13, 7);
        x.frame(5, 3);
        for (int kind = 0; kind < 4; kind++) {
            x.thing(kind);
        }
        x.line(1, 0, -1);
        x.lay(2, 3);
        x.slot(1, 2);
        x.swarm(1, 4);
        x.slot(1, 1);
        x.slot(0, 0);
        x.mate(1, 3);
        x.thing(1);
        x.bring(0, 1050);
        x.put(1, 1, 0);
        x.put(1, 7, 400);
        x.put(96, 4, 400);
        x.out(5);
        x.day(24);
        x.put(96, 3, 400);
        x.harvest(1);
        x.bring(0, 1990);
        x.bring(1, 77);
        x.harvest(96);
        x.bring(1, 30);
        x.sample(0, 2, 30);
        x.sample(1, 3, 40);
        x.due(0, 4, 5);
        x.day(4);
        return x;
    }

    /** Each look is at an object of its own: one look takes a good part of the 512 calls. */
    private static void undone(int[] counts, String call, java.util.function.ToIntFunction<BeeYard> change) {
        String was = told(rich());
        BeeYard changed = rich();
        c.is(call + " is not refused", change.applyAsInt(changed) >= 0 || changed.status() == 0 ? 1 : 0, 1);
        c.is(call + " changes something", told(changed).equals(was) ? 1 : 0, 0);
        BeeYard x = rich();
        change.applyAsInt(x);
        c.answer(x, "undo() of " + call, x.undo(), 1);
        c.is("all is as it was ahead of " + call, told(x).equals(was) ? 1 : 0, 1);
        c.answer(x, "undo() again", x.undo(), 0);
        c.answer(x, "WASHINGS after undo() of " + call, x.sample(0, 0, 1), 2);
        counts[0]++;
    }

    private static String told(BeeYard x) {
        StringBuilder all = new StringBuilder();
        for (int h = 0; h < 4; h++) {
            for (int what = 0; what < 12; what++) {
                all.append(x.inspect(h, what)).append(' ');
            }
            all.append(x.mites(h, 0)).append(' ').append(x.mites(h, 1)).append(' ');
        }
        for (int n = 0; n < 6; n++) {
            int place = x.where(n);
            all.append(n).append(':').append(place).append(' ').append(x.at(place)).append(' ');
            for (int i = 0; i < 10; i++) {
                all.append(x.field(place, i)).append(' ');
            }
        }
        for (int t = 0; t < 7; t++) {
            for (int what : new int[] {0, 1, 3, 8, 9, 10, 11, 12, 13, 14}) {
                all.append(x.ask(t, what)).append(' ');
            }
        }
        for (int what = 0; what < 5; what++) {
            all.append(x.honey(what)).append(' ');
        }
        for (int k = 0; k < 3; k++) {
            all.append(x.ledger(k, 0)).append(' ').append(x.ledger(k, 1)).append(' ').append(x.ledger(k, 2)).append(' ');
        }
        for (int a = 0; a < 20; a++) {
            all.append(x.plan(a, 100)).append(' ');
        }
        return all.toString();
    }

    private static void digest() {
        BeeYard x = rich();
        x.ask(0, 99);
        c.is("digest()", x.digest(), digestOf(x));
        x.ask(0, 99);
        x.digest();
        c.is("status() is left by digest()", x.status(), 6);
        x.day(20);
        c.is("digest()", x.digest(), digestOf(x));
        BeeYard y = rich();
        y.swarm(0, 5);
        y.ask(4, 5);
        c.is("digest()", y.digest(), digestOf(y));
        y.undo();
        c.is("digest()", y.digest(), digestOf(y));
    }

    /** From the other calls' answers, for the rich() yard. */
    private static int digestOf(BeeYard x) {
        java.util.List<Integer> all = new java.util.ArrayList<>();
        all.add(3);
        for (int h = 0; h < 3; h++) {
            for (int what = 0; what < 4; what++) {
                all.add(x.inspect(h, what));
            }
            all.add(x.mites(h, 0));
            all.add(x.mites(h, 1));
        }
        all.add(4);
        int[] sizes = {8, 9, 7, 3};
        for (int n = 0; n < 4; n++) {
            all.add(sizes[n]);
            for (int i = 0; i < sizes[n]; i++) {
                all.add(n == 3 ? benched(x, i) : x.field(x.where(n), i));
            }
        }
        int things = x.ask(6, 0) >= 0 ? 7 : 6;
        all.add(things);
        for (int t = 0; t < things; t++) {
            all.add(x.ask(t, 0));
            all.add(x.ask(t, 1));
        }
        all.add(x.ask(0, 1));
        for (int what = 0; what < 5; what++) {
            all.add(x.honey(what));
        }
        all.add(2);
        for (int b = 0; b < 17; b++) {
            all.add(x.trace(b));
        }
        int d = 17;
        for (int v : all) {
            d = d * 31 + v;
        }
        return d;
    }

    /** FIELD i of the FRAME that rich() leaves on the BENCH: no call tells it, but it was filled from 0 on. */
    private static int benched(BeeYard x, int i) {
        int inHives = 0;
        for (int h = 0; h < 3; h++) {
            inHives += x.inspect(h, 6);
        }
        return Math.max(0, Math.min(100, x.honey(0) - inHives - 100 * i));
    }

    private static void status() {
        BeeYard x = new BeeYard();
        c.is("status()", x.status(), 0);
        x.hive(-1);
        c.is("status()", x.status(), 6);
        c.is("status() again", x.status(), 6);
        x.moved();
        x.trace(0);
        x.trace(99);
        x.digest();
        c.is("status(), left by these", x.status(), 6);
        x.undo();
        c.is("status() after undo()", x.status(), 0);
        x.honey(9);
        x.honey(0);
        c.is("status() after an answer", x.status(), 0);
        x.hive(1);
        x.box(-1);
        c.is("status(), 2", x.status(), 2);
        x.gap(0);
        c.is("status(), -1 without a fault", x.status(), 0);
        x.box(-1);
        x.slot(0, -1);
        c.is("status(), -1 without a fault", x.status(), 0);
        x.box(-1);
        x.find(1, 1);
        c.is("status(), -1 without a fault", x.status(), 0);
    }
}
