/** A bee-keeper's yard. What each call answers, changes and refuses stands in DOC.md. */
public final class BeeYard {
    private static final int FINE = 0;
    private static final int LACKING = 1;
    private static final int BEYOND = 2;
    private static final int OTHER_KIND = 3;
    private static final int BY_NOUGHT = 4;
    private static final int BELOW = 5;
    private static final int NOT_AS_TOLD = 6;
    private static final int RING = 7;
    private static final int TOO_MANY = 8;

    private static final int NONE = -1;
    private static final int MAX_HIVES = 40;
    private static final int MAX_BOXES = 8;
    private static final int BOX_PLACES = 12;
    private static final int HIVE_PLACES = MAX_BOXES * BOX_PLACES;
    private static final int ALL_PLACES = MAX_HIVES * HIVE_PLACES;
    private static final int MAX_FRAMES = 200;
    private static final int MAX_FIELDS = 64;
    private static final int BENCH_PLACES = 24;
    private static final int MAX_THINGS = 200;
    private static final int MAX_ENTRIES = 200;
    private static final int MAX_SHARES = 100;
    private static final int MAX_PLANNED = 8;
    private static final int MAX_DEPTH = 15;
    private static final int MAX_MOVES = 12;
    private static final int BODY_COUNT = 17;
    private static final int WHOLE = 1 << 30;

    private static final int EMPTY = 0;
    private static final int FULL = 100;
    private static final int POLLEN = 200;
    private static final int WORKER_EGG = 300;
    private static final int WORKER_BORN = 321;
    private static final int DRONE_EGG = 400;
    private static final int DRONE_BORN = 424;

    private static final int QUEEN = 0;
    private static final int VIRGIN = 1;
    private static final int MATED = 2;
    private static final int DRONE = 3;
    private static final int SWARM = 4;
    private static final int NUCLEUS = 5;

    private Yard now = new Yard();
    private Yard before = new Yard();
    private boolean canGoBack = false;
    private int latestStatus = FINE;
    private int latestMoved = 0;
    // Outside of the Yard, because undo() leaves all of these as they are.
    private int nextEntry = 0;
    private final Bodies bodies = new Bodies();
    private final Lines lines = new Lines();
    private final Plan latestPlan = new Plan();
    private final Row shares = new Row(MAX_SHARES);
    private final Row letters = new Row(MAX_FIELDS);

    public BeeYard() {
    }

    // ---- the yard

    public int hive(int bees) {
        if (bees < 0 || bees > 20000 || now.hiveCount >= MAX_HIVES) {
            return refuse(NOT_AS_TOLD);
        }
        beginChange();
        return accept(now.addHive(bees));
    }

    public int box(int h) {
        int fault = hiveFault(h);
        if (fault != FINE) {
            return refuse(fault);
        }
        Hive hive = now.hiveOf(h);
        if (hive.boxes >= MAX_BOXES) {
            return refuse(NOT_AS_TOLD);
        }
        beginChange();
        return accept(hive.addBox());
    }

    public int frame(int p, int n) {
        int fault = placeFault(p);
        if (fault != FINE) {
            return refuse(fault);
        }
        if (n > MAX_FIELDS || now.frameCount >= MAX_FRAMES || now.frameNumberAt(p) != NONE) {
            return refuse(NOT_AS_TOLD);
        }
        if (n < 0) {
            return refuse(BELOW);
        }
        beginChange();
        return accept(now.addFrame(p, n));
    }

    public int out(int p) {
        int fault = frameFault(p);
        if (fault != FINE) {
            return refuse(fault);
        }
        int k = now.freeBenchPlace();
        if (k == NONE) {
            return refuse(NOT_AS_TOLD);
        }
        beginChange();
        now.bench[k] = now.frameNumberAt(p);
        now.setFrameNumberAt(p, NONE);
        return accept(k);
    }

    public int back(int k, int p) {
        if (k < 0 || k >= BENCH_PLACES) {
            return refuse(BEYOND);
        }
        if (now.bench[k] == NONE) {
            return refuse(LACKING);
        }
        int fault = placeFault(p);
        if (fault != FINE) {
            return refuse(fault);
        }
        if (now.frameNumberAt(p) != NONE) {
            return refuse(NOT_AS_TOLD);
        }
        beginChange();
        now.setFrameNumberAt(p, now.bench[k]);
        now.bench[k] = NONE;
        return accept(1);
    }

    public int at(int p) {
        int fault = frameFault(p);
        if (fault != FINE) {
            return refuse(fault);
        }
        return accept(now.frameNumberAt(p));
    }

    public int where(int n) {
        if (n < 0 || n >= MAX_FRAMES) {
            return refuse(BEYOND);
        }
        if (n >= now.frameCount) {
            return refuse(LACKING);
        }
        int k = now.benchPlaceOf(n);
        return accept(k != NONE ? -2 - k : now.placeOf(n));
    }

    public int field(int p, int i) {
        int fault = fieldFault(p, i);
        if (fault != FINE) {
            return refuse(fault);
        }
        return accept(now.frameAt(p).fields[i]);
    }

    public int put(int p, int i, int v) {
        int fault = fieldFault(p, i);
        if (fault != FINE) {
            return refuse(fault);
        }
        if (v != EMPTY && v != POLLEN && v != WORKER_EGG && v != DRONE_EGG) {
            return refuse(NOT_AS_TOLD);
        }
        beginChange();
        Frame frame = now.frameAt(p);
        int was = frame.fields[i];
        now.spilt += honeyIn(was);
        frame.fields[i] = v;
        return accept(was);
    }

    public int find(int v, int from) {
        if (from < 0 || from >= ALL_PLACES) {
            return refuse(BEYOND);
        }
        return accept(now.placeWithValue(v, from));
    }

    public int gap(int h) {
        int fault = hiveFault(h);
        if (fault != FINE) {
            return refuse(fault);
        }
        int place = now.hiveOf(h).freePlace();
        return accept(place == NONE ? NONE : h * HIVE_PLACES + place);
    }

    public int inspect(int h, int what) {
        int fault = hiveFault(h);
        if (fault != FINE) {
            return refuse(fault);
        }
        if (what < 0 || what > 11) {
            return refuse(NOT_AS_TOLD);
        }
        Hive hive = now.hiveOf(h);
        return accept(what < 6 ? hive.number(what) : now.fieldsNumber(hive, what));
    }

    // ---- honey

    public int bring(int h, int n) {
        int fault = hiveFault(h);
        if (fault != FINE) {
            return refuse(fault);
        }
        if (n < 0 || n > 10000) {
            return refuse(NOT_AS_TOLD);
        }
        beginChange();
        int room = now.fillHoney(now.hiveOf(h), n);
        now.brought += n;
        now.spilt += n - room;
        return accept(room);
    }

    public int harvest(int p) {
        int fault = frameFault(p);
        if (fault != FINE) {
            return refuse(fault);
        }
        if (now.book.count >= MAX_ENTRIES) {
            return refuse(NOT_AS_TOLD);
        }
        beginChange();
        int tenths = now.frameAt(p).takeAllHoney();
        now.harvested += tenths;
        now.book.addEntry(nextEntry, p, tenths);
        nextEntry++;
        return accept(tenths);
    }

    public int ledger(int k, int what) {
        if (k < 0 || k >= MAX_ENTRIES) {
            return refuse(BEYOND);
        }
        if (k >= now.book.count) {
            return refuse(LACKING);
        }
        if (what < 0 || what > 2) {
            return refuse(BEYOND);
        }
        return accept(now.book.entry(k, what));
    }

    public int honey(int what) {
        if (what < 0 || what > 4) {
            return refuse(NOT_AS_TOLD);
        }
        return accept(now.honeyNumber(what));
    }

    // ---- moving frames' fields and boxes

    public int move(int from, int to, int n) {
        if (n > MAX_MOVES) {
            return refuse(NOT_AS_TOLD);
        }
        if (n < 0) {
            return refuse(BELOW);
        }
        latestMoved = 0;
        for (int k = 0; k < n; k++) {
            int fault = moveFault(from + k, to + k);
            if (fault != FINE) {
                return refuse(fault);
            }
            if (k == 0) {
                beginChange();
            }
            now.moveFields(from + k, to + k);
            latestMoved++;
        }
        return accept(n);
    }

    public int moved() {
        return latestMoved;
    }

    public int stack(int h, int g) {
        int fault = twoHivesFault(h, g);
        if (fault != FINE) {
            return refuse(fault);
        }
        Hive giver = now.hiveOf(h);
        Hive taker = now.hiveOf(g);
        if (giver.boxes == 0) {
            return refuse(BEYOND);
        }
        if (h == g || taker.boxes >= MAX_BOXES) {
            return refuse(NOT_AS_TOLD);
        }
        beginChange();
        taker.takeBoxes(giver, giver.boxes - 1);
        return accept(taker.boxes - 1);
    }

    public int join(int h, int g) {
        int fault = twoHivesFault(h, g);
        if (fault != FINE) {
            return refuse(fault);
        }
        Hive taker = now.hiveOf(h);
        Hive giver = now.hiveOf(g);
        if (h == g || taker.boxes + giver.boxes > MAX_BOXES) {
            return refuse(NOT_AS_TOLD);
        }
        beginChange();
        int had = taker.boxes;
        taker.takeBoxes(giver, 0);
        taker.takeRest(giver);
        return accept(had);
    }

    public int split(int h, int k, int g) {
        int fault = twoHivesFault(h, g);
        if (fault != FINE) {
            return refuse(fault);
        }
        Hive giver = now.hiveOf(h);
        Hive taker = now.hiveOf(g);
        if (h == g || taker.boxes > 0) {
            return refuse(NOT_AS_TOLD);
        }
        if (k < 0 || k > giver.boxes) {
            return refuse(BEYOND);
        }
        if (giver.boxes == 0) {
            return refuse(BY_NOUGHT);
        }
        beginChange();
        int count = giver.boxes - k;
        taker.takePart(giver, count, giver.boxes);
        taker.takeBoxes(giver, k);
        return accept(count);
    }

    // ---- things

    public int thing(int kind) {
        if (kind < QUEEN || kind > DRONE || now.thingCount >= MAX_THINGS) {
            return refuse(NOT_AS_TOLD);
        }
        beginChange();
        return accept(now.addThing(kind));
    }

    public int line(int t, int mother, int father) {
        int fault = lineFault(t, mother, father);
        if (fault != FINE) {
            return refuse(fault);
        }
        beginChange();
        Thing child = now.thingOf(t);
        child.mother = mother;
        child.father = father;
        lines.writeDepths(now);
        return accept(child.depth);
    }

    public int kin(int a, int b) {
        int fault = thingFault(a);
        if (fault == FINE) {
            fault = thingFault(b);
        }
        if (fault != FINE) {
            return refuse(fault);
        }
        return accept(lines.kinParts(now, a, b));
    }

    public int ask(int t, int what) {
        int fault = thingFault(t);
        if (fault != FINE) {
            return refuse(fault);
        }
        if (what < 0 || what > 14) {
            return refuse(NOT_AS_TOLD);
        }
        Thing asked = now.thingOf(t);
        if ((what == 4 || what == 7) && !asked.isQueen()) {
            return refuse(OTHER_KIND);
        }
        if ((what == 11 || what == 12) && asked.kind != MATED) {
            return refuse(OTHER_KIND);
        }
        if (what == 13) {
            return accept(now.hiveWithInSlot(t));
        }
        if (what == 14) {
            return accept(now.swarmAround(t));
        }
        return accept(what >= 2 && what <= 7 ? bodies.act(asked, what) : asked.number(what));
    }

    public int slot(int h, int t) {
        int fault = hiveFault(h);
        if (fault == FINE && t != NONE) {
            fault = thingFault(t);
        }
        if (fault == FINE && t != NONE && now.isHeld(t)) {
            fault = NOT_AS_TOLD;
        }
        if (fault != FINE) {
            return refuse(fault);
        }
        beginChange();
        Hive hive = now.hiveOf(h);
        int was = hive.inSlot;
        hive.inSlot = t;
        return accept(was);
    }

    public int lay(int t, int n) {
        int fault = thingFault(t);
        if (fault != FINE) {
            return refuse(fault);
        }
        Thing queen = now.thingOf(t);
        if (queen.kind != MATED) {
            return refuse(OTHER_KIND);
        }
        if (n < 0 || n > 200) {
            return refuse(NOT_AS_TOLD);
        }
        beginChange();
        int was = queen.rate;
        queen.rate = n;
        return accept(was);
    }

    public int mate(int v, int d) {
        int fault = thingFault(v);
        if (fault == FINE && now.thingOf(v).kind != VIRGIN) {
            fault = OTHER_KIND;
        }
        if (fault == FINE) {
            fault = thingFault(d);
        }
        if (fault == FINE && now.thingOf(d).kind != DRONE) {
            fault = OTHER_KIND;
        }
        if (fault != FINE) {
            return refuse(fault);
        }
        beginChange();
        now.thingOf(v).becomeMated(d);
        return accept(1);
    }

    public int day(int n) {
        if (n < 1 || n > 30) {
            return refuse(NOT_AS_TOLD);
        }
        beginChange();
        for (int i = 0; i < n; i++) {
            now.passDay(bodies);
        }
        return accept(now.days);
    }

    public int swarm(int h, int kind) {
        int fault = hiveFault(h);
        if (fault != FINE) {
            return refuse(fault);
        }
        if ((kind != SWARM && kind != NUCLEUS) || now.thingCount >= MAX_THINGS) {
            return refuse(NOT_AS_TOLD);
        }
        beginChange();
        int t = now.addThing(kind);
        now.hiveOf(h).sendOff(now.thingOf(t));
        return accept(t);
    }

    public int settle(int t, int h) {
        int fault = thingFault(t);
        if (fault == FINE && !now.thingOf(t).isSwarm()) {
            fault = OTHER_KIND;
        }
        if (fault == FINE) {
            fault = hiveFault(h);
        }
        if (fault != FINE) {
            return refuse(fault);
        }
        beginChange();
        Thing swarm = now.thingOf(t);
        int came = bodies.carries(swarm);
        now.hiveOf(h).takeIn(swarm, came);
        return accept(came);
    }

    // ---- shares and mites

    public int share(int h, int n) {
        int fault = hiveFault(h);
        if (fault != FINE) {
            return refuse(fault);
        }
        if (n > MAX_SHARES) {
            return refuse(NOT_AS_TOLD);
        }
        if (n < 0) {
            return refuse(BELOW);
        }
        if (n == 0) {
            return refuse(BY_NOUGHT);
        }
        int bees = now.hiveOf(h).bees;
        shares.begin(n);
        for (int i = 0; i < n; i++) {
            shares.items[i] = i < bees % n ? bees / n + 1 : bees / n;
        }
        return accept(bees / n);
    }

    public int shared(int i) {
        int fault = shares.fault(i);
        if (fault != FINE) {
            return refuse(fault);
        }
        return accept(shares.items[i]);
    }

    public int sample(int h, int m, int b) {
        int fault = hiveFault(h);
        if (fault != FINE) {
            return refuse(fault);
        }
        if (m < 0 || m > 10000 || b < 0 || b > 10000) {
            return refuse(NOT_AS_TOLD);
        }
        if (b == 0) {
            return refuse(BY_NOUGHT);
        }
        beginChange();
        Hive hive = now.hiveOf(h);
        hive.washings++;
        hive.mites += m;
        hive.washed += b;
        return accept(hive.washings);
    }

    public int mites(int h, int what) {
        int fault = hiveFault(h);
        if (fault != FINE) {
            return refuse(fault);
        }
        if (what < 0 || what > 3) {
            return refuse(NOT_AS_TOLD);
        }
        Hive hive = now.hiveOf(h);
        int number = what % 2 == 0 ? hive.mites : hive.washed;
        if (what < 2) {
            return accept(number);
        }
        if (hive.washed == 0) {
            return refuse(BY_NOUGHT);
        }
        int divisor = commonDivisor(hive.mites, hive.washed);
        return accept(divisor == 0 ? number : number / divisor);
    }

    public int compare(int h, int g) {
        int fault = twoHivesFault(h, g);
        if (fault != FINE) {
            return refuse(fault);
        }
        Hive one = now.hiveOf(h);
        Hive other = now.hiveOf(g);
        if (one.washed == 0 || other.washed == 0) {
            return refuse(BY_NOUGHT);
        }
        long left = (long) one.mites * other.washed;
        long right = (long) other.mites * one.washed;
        return accept(left < right ? 0 : left == right ? 1 : 2);
    }

    public int treat(int h) {
        int fault = hiveFault(h);
        if (fault != FINE) {
            return refuse(fault);
        }
        beginChange();
        now.hiveOf(h).forgetWashings();
        return accept(1);
    }

    public int due(int h, int days, int growth) {
        int fault = hiveFault(h);
        if (fault != FINE) {
            return refuse(fault);
        }
        boolean none = days == 0 && growth == 0;
        if (!none && (days < 1 || days > 30 || growth < 1 || growth > 1000)) {
            return refuse(NOT_AS_TOLD);
        }
        beginChange();
        Hive hive = now.hiveOf(h);
        hive.treatDays = days;
        hive.treatGrowth = growth;
        return accept(1);
    }

    public int plan(int a, int b) {
        if (a < 0 || a > 10000 || b < 0 || b > 10000) {
            return refuse(NOT_AS_TOLD);
        }
        int treated = now.countTreated();
        if (treated > MAX_PLANNED) {
            return refuse(TOO_MANY);
        }
        if (now.lacksWashedTreated() || (b == 0 && treated > 0)) {
            return refuse(BY_NOUGHT);
        }
        return accept(latestPlan.make(now, a, b));
    }

    public int chosen(int i) {
        int fault = latestPlan.order.fault(i);
        if (fault != FINE) {
            return refuse(fault);
        }
        return accept(latestPlan.order.items[i]);
    }

    // ---- letters

    public int export(int p) {
        int fault = frameFault(p);
        if (fault != FINE) {
            return refuse(fault);
        }
        Frame frame = now.frameAt(p);
        letters.begin(frame.size);
        for (int i = 0; i < frame.size; i++) {
            letters.items[i] = letterOf(frame.fields[i]);
        }
        return accept(frame.size);
    }

    public int letter(int i) {
        int fault = letters.fault(i);
        if (fault != FINE) {
            return refuse(fault);
        }
        return accept(letters.items[i]);
    }

    public int copy(int i, int j, int n) {
        if (!letters.made) {
            return refuse(LACKING);
        }
        int count = letters.count;
        if (n < 0 || i < 0 || i > count || j < 0 || j > count || n > count - i || n > count - j) {
            return refuse(BEYOND);
        }
        System.arraycopy(letters.items, i, letters.items, j, n);
        return accept(n);
    }

    // ---- looking on, and one step back

    public int trace(int b) {
        return b < 0 || b >= BODY_COUNT ? 0 : bodies.runs[b];
    }

    public int undo() {
        if (!canGoBack) {
            return accept(0);
        }
        Yard left = now;
        now = before;
        before = left;
        canGoBack = false;
        return accept(1);
    }

    public int digest() {
        int d = now.digestFrom(17);
        for (int b = 0; b < BODY_COUNT; b++) {
            d = d * 31 + bodies.runs[b];
        }
        return d;
    }

    public int status() {
        return latestStatus;
    }

    // ---- what the calls share

    private int accept(int answer) {
        latestStatus = FINE;
        return answer;
    }

    private int refuse(int fault) {
        latestStatus = fault;
        return -1;
    }

    private void beginChange() {
        before.become(now);
        canGoBack = true;
    }

    private int hiveFault(int h) {
        if (h < 0 || h >= MAX_HIVES) {
            return BEYOND;
        }
        return h < now.hiveCount ? FINE : LACKING;
    }

    private int twoHivesFault(int h, int g) {
        int fault = hiveFault(h);
        return fault != FINE ? fault : hiveFault(g);
    }

    private int thingFault(int t) {
        if (t < 0 || t >= MAX_THINGS) {
            return BEYOND;
        }
        return t < now.thingCount ? FINE : LACKING;
    }

    private int placeFault(int p) {
        if (p < 0 || p >= ALL_PLACES) {
            return BEYOND;
        }
        return now.hasPlace(p) ? FINE : LACKING;
    }

    private int frameFault(int p) {
        int fault = placeFault(p);
        if (fault != FINE) {
            return fault;
        }
        return now.frameNumberAt(p) == NONE ? LACKING : FINE;
    }

    private int fieldFault(int p, int i) {
        int fault = frameFault(p);
        if (fault != FINE) {
            return fault;
        }
        return i < 0 || i >= now.frameAt(p).size ? BEYOND : FINE;
    }

    private int moveFault(int from, int to) {
        int fault = frameFault(from);
        if (fault == FINE) {
            fault = frameFault(to);
        }
        if (fault != FINE) {
            return fault;
        }
        return now.frameAt(to).size < now.frameAt(from).size ? BEYOND : FINE;
    }

    private int lineFault(int t, int mother, int father) {
        int fault = thingFault(t);
        if (fault == FINE && mother != NONE) {
            fault = thingFault(mother);
            if (fault == FINE && !now.thingOf(mother).isQueen()) {
                fault = OTHER_KIND;
            }
        }
        if (fault == FINE && father != NONE) {
            fault = thingFault(father);
            if (fault == FINE && now.thingOf(father).kind != DRONE) {
                fault = OTHER_KIND;
            }
        }
        if (fault != FINE) {
            return fault;
        }
        if (now.thingOf(t).kind == DRONE && father != NONE) {
            return NOT_AS_TOLD;
        }
        lines.markFrom(now, t);
        if (lines.isMarked(mother) || lines.isMarked(father)) {
            return RING;
        }
        return lines.deepestWith(now, t, mother, father) > MAX_DEPTH ? NOT_AS_TOLD : FINE;
    }

    private static int honeyIn(int value) {
        return value > EMPTY && value <= FULL ? value : 0;
    }

    private static boolean isYoung(int value) {
        return value >= WORKER_EGG;
    }

    private static char letterOf(int value) {
        if (value == EMPTY) {
            return '.';
        }
        if (value <= FULL) {
            return 'h';
        }
        if (value == POLLEN) {
            return 'p';
        }
        boolean drone = value >= DRONE_EGG;
        int age = drone ? value - DRONE_EGG : value - WORKER_EGG;
        if (age < 3) {
            return drone ? 'E' : 'e';
        }
        if (age < 9) {
            return drone ? 'B' : 'b';
        }
        return drone ? 'S' : 's';
    }

    /** Number 'step' of a row that is gone through from its middle to both ends. */
    private static int fromMiddle(int middle, int step) {
        return step % 2 == 0 ? middle + step / 2 : middle - 1 - step / 2;
    }

    private static int commonDivisor(int a, int b) {
        int x = a;
        int y = b;
        // Two ints need less than 50 steps.
        for (int step = 0; step < 64 && y != 0; step++) {
            int rest = x % y;
            x = y;
            y = rest;
        }
        return x;
    }

    /** All that undo() brings back: two of these stand side by side, and each one's parts are used again. */
    private static final class Yard {
        final Hive[] hives = new Hive[MAX_HIVES];
        final Frame[] frames = new Frame[MAX_FRAMES];
        final Thing[] things = new Thing[MAX_THINGS];
        final int[] bench = new int[BENCH_PLACES];
        final Book book = new Book();
        int hiveCount = 0;
        int frameCount = 0;
        int thingCount = 0;
        int days = 0;
        int harvested = 0;
        int eaten = 0;
        int spilt = 0;
        int brought = 0;

        Yard() {
            for (int k = 0; k < BENCH_PLACES; k++) {
                bench[k] = NONE;
            }
        }

        void become(Yard other) {
            hiveCount = other.hiveCount;
            for (int h = 0; h < hiveCount; h++) {
                hiveOf(h).become(other.hiveOf(h));
            }
            frameCount = other.frameCount;
            for (int n = 0; n < frameCount; n++) {
                frameOf(n).become(other.frameOf(n));
            }
            thingCount = other.thingCount;
            for (int t = 0; t < thingCount; t++) {
                thingOf(t).become(other.thingOf(t));
            }
            System.arraycopy(other.bench, 0, bench, 0, BENCH_PLACES);
            book.become(other.book);
            days = other.days;
            harvested = other.harvested;
            eaten = other.eaten;
            spilt = other.spilt;
            brought = other.brought;
        }

        // The parts are made when first used: a yard of a few hives stays small.

        Hive hiveOf(int h) {
            if (hives[h] == null) {
                hives[h] = new Hive();
            }
            return hives[h];
        }

        Frame frameOf(int n) {
            if (frames[n] == null) {
                frames[n] = new Frame();
            }
            return frames[n];
        }

        Thing thingOf(int t) {
            if (things[t] == null) {
                things[t] = new Thing();
            }
            return things[t];
        }

        int addHive(int bees) {
            hiveOf(hiveCount).begin(bees);
            hiveCount++;
            return hiveCount - 1;
        }

        int addFrame(int p, int size) {
            frameOf(frameCount).begin(size);
            setFrameNumberAt(p, frameCount);
            frameCount++;
            return frameCount - 1;
        }

        int addThing(int kind) {
            thingOf(thingCount).begin(kind);
            thingCount++;
            return thingCount - 1;
        }

        boolean hasPlace(int p) {
            int h = p / HIVE_PLACES;
            return h < hiveCount && p % HIVE_PLACES < hiveOf(h).placeCount();
        }

        int frameNumberAt(int p) {
            return hiveOf(p / HIVE_PLACES).places[p % HIVE_PLACES];
        }

        void setFrameNumberAt(int p, int n) {
            hiveOf(p / HIVE_PLACES).places[p % HIVE_PLACES] = n;
        }

        Frame frameAt(int p) {
            return frameOf(frameNumberAt(p));
        }

        int freeBenchPlace() {
            return benchPlaceOf(NONE);
        }

        int benchPlaceOf(int n) {
            for (int k = 0; k < BENCH_PLACES; k++) {
                if (bench[k] == n) {
                    return k;
                }
            }
            return NONE;
        }

        int placeOf(int n) {
            for (int h = 0; h < hiveCount; h++) {
                Hive hive = hiveOf(h);
                for (int i = 0; i < hive.placeCount(); i++) {
                    if (hive.places[i] == n) {
                        return h * HIVE_PLACES + i;
                    }
                }
            }
            return NONE;
        }

        int placeWithValue(int value, int from) {
            for (int p = from; p < hiveCount * HIVE_PLACES; p++) {
                if (hasPlace(p) && frameNumberAt(p) != NONE && frameAt(p).holds(value)) {
                    return p;
                }
            }
            return NONE;
        }

        void moveFields(int from, int to) {
            if (from != to) {
                spilt += frameAt(from).pourInto(frameAt(to));
            }
        }

        int fillHoney(Hive hive, int tenths) {
            int room = 0;
            for (int i = 0; i < hive.placeCount() && room < tenths; i++) {
                if (hive.places[i] != NONE) {
                    room += frameOf(hive.places[i]).addHoney(tenths - room);
                }
            }
            return room;
        }

        int honeyNumber(int what) {
            switch (what) {
                case 0:
                    return honeyInAllFrames();
                case 1:
                    return harvested;
                case 2:
                    return eaten;
                case 3:
                    return spilt;
                default:
                    return brought;
            }
        }

        int honeyInAllFrames() {
            int sum = 0;
            for (int n = 0; n < frameCount; n++) {
                sum += frameOf(n).honeyTenths();
            }
            return sum;
        }

        int fieldsNumber(Hive hive, int what) {
            int sum = 0;
            for (int i = 0; i < hive.placeCount(); i++) {
                if (hive.places[i] != NONE) {
                    sum += frameOf(hive.places[i]).number(what);
                }
            }
            return sum;
        }

        int hiveWithInSlot(int t) {
            for (int h = 0; h < hiveCount; h++) {
                if (hiveOf(h).inSlot == t) {
                    return h;
                }
            }
            return NONE;
        }

        int swarmAround(int t) {
            for (int s = 0; s < thingCount; s++) {
                if (thingOf(s).inside == t) {
                    return s;
                }
            }
            return NONE;
        }

        boolean isHeld(int t) {
            return hiveWithInSlot(t) != NONE || swarmAround(t) != NONE;
        }

        int countTreated() {
            int count = 0;
            for (int h = 0; h < hiveCount; h++) {
                if (hiveOf(h).treatDays > 0) {
                    count++;
                }
            }
            return count;
        }

        boolean lacksWashedTreated() {
            for (int h = 0; h < hiveCount; h++) {
                if (hiveOf(h).treatDays > 0 && hiveOf(h).washed == 0) {
                    return true;
                }
            }
            return false;
        }

        void passDay(Bodies bodies) {
            days++;
            for (int t = 0; t < thingCount; t++) {
                bodies.passes(thingOf(t));
            }
            for (int h = 0; h < hiveCount; h++) {
                Hive hive = hiveOf(h);
                growYoung(hive);
                layYoung(hive, eggsOf(hive, bodies));
                eatHoney(hive);
                hive.bees -= hive.bees / 40;
            }
        }

        void growYoung(Hive hive) {
            for (int i = 0; i < hive.placeCount(); i++) {
                if (hive.places[i] != NONE) {
                    frameOf(hive.places[i]).growYoung(hive);
                }
            }
        }

        int eggsOf(Hive hive, Bodies bodies) {
            if (hive.inSlot == NONE) {
                hive.finding = LACKING;
                return 0;
            }
            Thing inSlot = thingOf(hive.inSlot);
            if (!inSlot.isQueen()) {
                hive.finding = OTHER_KIND;
                return 0;
            }
            hive.finding = FINE;
            return bodies.lays(inSlot);
        }

        void layYoung(Hive hive, int eggs) {
            int value = eggs < 0 ? DRONE_EGG : WORKER_EGG;
            int left = eggs < 0 ? -eggs : eggs;
            for (int step = 0; step < hive.placeCount() && left > 0; step++) {
                int box = step / BOX_PLACES;
                int place = fromMiddle(BOX_PLACES / 2, step % BOX_PLACES);
                int n = hive.places[box * BOX_PLACES + place];
                if (n != NONE) {
                    left -= frameOf(n).addYoung(value, left);
                }
            }
        }

        void eatHoney(Hive hive) {
            hive.hunger += hive.bees + hive.drones;
            int wanted = hive.hunger / 100;
            hive.hunger -= wanted * 100;
            int found = 0;
            for (int i = 0; i < hive.placeCount() && found < wanted; i++) {
                if (hive.places[i] != NONE) {
                    found += frameOf(hive.places[i]).takeHoney(wanted - found);
                }
            }
            eaten += found;
            hive.bees -= Math.min(hive.bees, (wanted - found) * 100);
        }

        int digestFrom(int start) {
            int d = start * 31 + hiveCount;
            for (int h = 0; h < hiveCount; h++) {
                d = hiveOf(h).digestFrom(d);
            }
            d = d * 31 + frameCount;
            for (int n = 0; n < frameCount; n++) {
                d = frameOf(n).digestFrom(d);
            }
            d = d * 31 + thingCount;
            for (int t = 0; t < thingCount; t++) {
                d = (d * 31 + thingOf(t).kind) * 31 + thingOf(t).days;
            }
            d = d * 31 + days;
            for (int what = 0; what < 5; what++) {
                d = d * 31 + honeyNumber(what);
            }
            return d * 31 + book.count;
        }
    }

    private static final class Hive {
        // Only the places of BOXES that are there are read; those above may hold what once was there.
        final int[] places = new int[HIVE_PLACES];
        int boxes = 0;
        int bees = 0;
        int drones = 0;
        int hunger = 0;
        int inSlot = NONE;
        int washings = 0;
        int mites = 0;
        int washed = 0;
        int treatDays = 0;
        int treatGrowth = 0;
        int finding = FINE;

        void begin(int beesAtFirst) {
            boxes = 0;
            bees = beesAtFirst;
            drones = 0;
            hunger = 0;
            inSlot = NONE;
            forgetWashings();
            treatDays = 0;
            treatGrowth = 0;
            finding = FINE;
        }

        void become(Hive other) {
            System.arraycopy(other.places, 0, places, 0, HIVE_PLACES);
            boxes = other.boxes;
            bees = other.bees;
            drones = other.drones;
            hunger = other.hunger;
            inSlot = other.inSlot;
            washings = other.washings;
            mites = other.mites;
            washed = other.washed;
            treatDays = other.treatDays;
            treatGrowth = other.treatGrowth;
            finding = other.finding;
        }

        int placeCount() {
            return boxes * BOX_PLACES;
        }

        int addBox() {
            for (int i = 0; i < BOX_PLACES; i++) {
                places[placeCount() + i] = NONE;
            }
            boxes++;
            return boxes - 1;
        }

        /** The caller has looked that there is room for the other one's BOXES from 'first' on. */
        void takeBoxes(Hive other, int first) {
            int count = other.boxes - first;
            System.arraycopy(other.places, first * BOX_PLACES, places, placeCount(), count * BOX_PLACES);
            boxes += count;
            other.boxes = first;
        }

        void takeRest(Hive other) {
            bees += other.bees;
            drones += other.drones;
            hunger += other.hunger;
            washings += other.washings;
            mites += other.mites;
            washed += other.washed;
            if (inSlot == NONE) {
                inSlot = other.inSlot;
            }
            other.bees = 0;
            other.drones = 0;
            other.hunger = 0;
            other.inSlot = NONE;
            other.forgetWashings();
        }

        void takePart(Hive other, int part, int whole) {
            if (whole == 0) {
                return;
            }
            int someBees = (int) ((long) other.bees * part / whole);
            int someDrones = (int) ((long) other.drones * part / whole);
            bees += someBees;
            drones += someDrones;
            other.bees -= someBees;
            other.drones -= someDrones;
        }

        void sendOff(Thing swarm) {
            int leaving = swarm.kind == SWARM ? bees / 2 : bees / 3;
            bees -= leaving;
            swarm.load = leaving;
            if (swarm.kind == SWARM) {
                swarm.inside = inSlot;
                inSlot = NONE;
            }
        }

        void takeIn(Thing swarm, int came) {
            bees += came;
            swarm.load = 0;
            if (inSlot == NONE) {
                inSlot = swarm.inside;
            }
            swarm.inside = NONE;
        }

        void forgetWashings() {
            washings = 0;
            mites = 0;
            washed = 0;
        }

        int freePlace() {
            for (int i = 0; i < placeCount(); i++) {
                if (places[i] == NONE) {
                    return i;
                }
            }
            return NONE;
        }

        int countFreePlaces() {
            int count = 0;
            for (int i = 0; i < placeCount(); i++) {
                if (places[i] == NONE) {
                    count++;
                }
            }
            return count;
        }

        int number(int what) {
            switch (what) {
                case 0:
                    return bees;
                case 1:
                    return drones;
                case 2:
                    return hunger;
                case 3:
                    return boxes;
                case 4:
                    return finding;
                default:
                    return countFreePlaces();
            }
        }

        int digestFrom(int start) {
            int d = start * 31 + bees;
            d = d * 31 + drones;
            d = d * 31 + hunger;
            d = d * 31 + boxes;
            d = d * 31 + mites;
            return d * 31 + washed;
        }
    }

    private static final class Frame {
        final int[] fields = new int[MAX_FIELDS];
        int size = 0;

        void begin(int fieldCount) {
            size = fieldCount;
            for (int i = 0; i < size; i++) {
                fields[i] = EMPTY;
            }
        }

        void become(Frame other) {
            size = other.size;
            System.arraycopy(other.fields, 0, fields, 0, size);
        }

        boolean holds(int value) {
            for (int i = 0; i < size; i++) {
                if (fields[i] == value) {
                    return true;
                }
            }
            return false;
        }

        int honeyTenths() {
            int sum = 0;
            for (int i = 0; i < size; i++) {
                sum += honeyIn(fields[i]);
            }
            return sum;
        }

        int addHoney(int tenths) {
            int left = tenths;
            for (int i = 0; i < size && left > 0; i++) {
                if (fields[i] < FULL) {
                    int more = Math.min(FULL - fields[i], left);
                    fields[i] += more;
                    left -= more;
                }
            }
            return tenths - left;
        }

        int takeHoney(int tenths) {
            int left = tenths;
            for (int i = 0; i < size && left > 0; i++) {
                int less = Math.min(honeyIn(fields[i]), left);
                fields[i] -= less;
                left -= less;
            }
            return tenths - left;
        }

        int takeAllHoney() {
            return takeHoney(honeyTenths());
        }

        /** Answers the tenths that were spilt in the other one's FIELDS. */
        int pourInto(Frame other) {
            int lost = 0;
            for (int i = 0; i < size && i < other.size; i++) {
                lost += honeyIn(other.fields[i]);
                other.fields[i] = fields[i];
                fields[i] = EMPTY;
            }
            return lost;
        }

        void growYoung(Hive hive) {
            for (int i = 0; i < size; i++) {
                if (isYoung(fields[i])) {
                    fields[i]++;
                    if (fields[i] == WORKER_BORN) {
                        fields[i] = EMPTY;
                        hive.bees++;
                    } else if (fields[i] == DRONE_BORN) {
                        fields[i] = EMPTY;
                        hive.drones++;
                    }
                }
            }
        }

        int addYoung(int value, int wanted) {
            int count = 0;
            for (int step = 0; step < MAX_FIELDS && count < wanted; step++) {
                int i = fromMiddle(MAX_FIELDS / 2, step);
                if (i < size && fields[i] == EMPTY) {
                    fields[i] = value;
                    count++;
                }
            }
            return count;
        }

        int number(int what) {
            switch (what) {
                case 6:
                    return honeyTenths();
                case 7:
                    return countLetters('e', 'E');
                case 8:
                    return countLetters('b', 'B');
                case 9:
                    return countLetters('s', 'S');
                case 10:
                    return countLetters('.', '.');
                default:
                    return countLetters('p', 'p');
            }
        }

        int countLetters(char one, char other) {
            int count = 0;
            for (int i = 0; i < size; i++) {
                char c = letterOf(fields[i]);
                if (c == one || c == other) {
                    count++;
                }
            }
            return count;
        }

        int digestFrom(int start) {
            int d = start * 31 + size;
            for (int i = 0; i < size; i++) {
                d = d * 31 + fields[i];
            }
            return d;
        }
    }

    private static final class Thing {
        int kind = QUEEN;
        int days = 0;
        int mother = NONE;
        int father = NONE;
        int depth = 0;
        int rate = 0;
        int sire = NONE;
        int load = 0;
        int inside = NONE;

        void begin(int itsKind) {
            kind = itsKind;
            days = 0;
            mother = NONE;
            father = NONE;
            depth = 0;
            rate = 0;
            sire = NONE;
            load = 0;
            inside = NONE;
        }

        void become(Thing other) {
            kind = other.kind;
            days = other.days;
            mother = other.mother;
            father = other.father;
            depth = other.depth;
            rate = other.rate;
            sire = other.sire;
            load = other.load;
            inside = other.inside;
        }

        void becomeMated(int drone) {
            kind = MATED;
            rate = 0;
            sire = drone;
        }

        boolean isQueen() {
            return kind == QUEEN || kind == VIRGIN || kind == MATED;
        }

        boolean isSwarm() {
            return kind == SWARM || kind == NUCLEUS;
        }

        int number(int what) {
            switch (what) {
                case 0:
                    return kind;
                case 1:
                    return days;
                case 8:
                    return mother;
                case 9:
                    return father;
                case 10:
                    return depth;
                case 11:
                    return rate;
                default:
                    return sire;
            }
        }
    }

    /** The LEDGER's entries; their next number is not kept here, since undo() leaves it. */
    private static final class Book {
        final int[] numbers = new int[MAX_ENTRIES];
        final int[] places = new int[MAX_ENTRIES];
        final int[] tenths = new int[MAX_ENTRIES];
        int count = 0;

        void addEntry(int number, int place, int amount) {
            numbers[count] = number;
            places[count] = place;
            tenths[count] = amount;
            count++;
        }

        int entry(int k, int what) {
            return what == 0 ? numbers[k] : what == 1 ? places[k] : tenths[k];
        }

        void become(Book other) {
            count = other.count;
            System.arraycopy(other.numbers, 0, numbers, 0, count);
            System.arraycopy(other.places, 0, places, 0, count);
            System.arraycopy(other.tenths, 0, tenths, 0, count);
        }
    }

    /** The ACTS, with a method for each BODY, so that every run is counted at one spot. */
    private static final class Bodies {
        final int[] runs = new int[BODY_COUNT];

        int act(Thing t, int what) {
            switch (what) {
                case 2:
                    return tells(t);
                case 3:
                    return carries(t);
                case 4:
                    return lays(t);
                case 5:
                    return old(t) ? 1 : 0;
                case 6:
                    return loaded(t) ? 1 : 0;
                default:
                    return laying(t) ? 1 : 0;
            }
        }

        int tells(Thing t) {
            switch (t.kind) {
                case DRONE:
                    return droneTells(t);
                case SWARM:
                    return thingTells(t);
                case NUCLEUS:
                    return nucleusTells(t);
                default:
                    return queenTells(t);
            }
        }

        int carries(Thing t) {
            switch (t.kind) {
                case SWARM:
                    return swarmCarries(t);
                case NUCLEUS:
                    return nucleusCarries(t);
                default:
                    return thingCarries();
            }
        }

        /** Of Queens alone. */
        int lays(Thing t) {
            switch (t.kind) {
                case VIRGIN:
                    return virginLays(t);
                case MATED:
                    return matedLays(t);
                default:
                    return queenLays();
            }
        }

        void ages(Thing t) {
            switch (t.kind) {
                case VIRGIN:
                    virginAges(t);
                    break;
                case SWARM:
                case NUCLEUS:
                    swarmAges(t);
                    break;
                default:
                    thingAges(t);
                    break;
            }
        }

        boolean laying(Thing t) {
            runs[13]++;
            return lays(t) != 0;
        }

        boolean old(Thing t) {
            runs[14]++;
            return tells(t) > 1100;
        }

        boolean loaded(Thing t) {
            runs[15]++;
            return carries(t) > 0;
        }

        void passes(Thing t) {
            runs[16]++;
            ages(t);
        }

        private void thingAges(Thing t) {
            runs[0]++;
            t.days++;
        }

        private int thingTells(Thing t) {
            runs[1]++;
            return t.days;
        }

        private int thingCarries() {
            runs[2]++;
            return 0;
        }

        private int queenTells(Thing t) {
            runs[3]++;
            return thingTells(t) + 1000;
        }

        private int queenLays() {
            runs[4]++;
            return 5;
        }

        private void virginAges(Thing t) {
            runs[5]++;
            thingAges(t);
            thingAges(t);
        }

        private int virginLays(Thing t) {
            runs[6]++;
            return t.days <= 30 ? 0 : -queenLays();
        }

        private int matedLays(Thing t) {
            runs[7]++;
            return Math.max(0, queenLays() + t.rate - t.days / 100);
        }

        private int droneTells(Thing t) {
            runs[8]++;
            return -1 - thingTells(t);
        }

        private void swarmAges(Thing t) {
            runs[9]++;
            thingAges(t);
            t.load -= t.load / 10;
        }

        private int swarmCarries(Thing t) {
            runs[10]++;
            return t.load;
        }

        private int nucleusTells(Thing t) {
            runs[11]++;
            return thingTells(t) + 5000;
        }

        private int nucleusCarries(Thing t) {
            runs[12]++;
            return Math.min(swarmCarries(t), 1000);
        }
    }

    /** LINES: the rows here are only for the call that is under way. */
    private static final class Lines {
        final boolean[] marked = new boolean[MAX_THINGS];
        final int[] depths = new int[MAX_THINGS];
        final int[] order = new int[MAX_THINGS];
        final int[] ranks = new int[MAX_THINGS];
        int ordered = 0;
        int[] pairs = new int[16];

        boolean isMarked(int t) {
            return t != NONE && marked[t];
        }

        void clearMarks() {
            for (int t = 0; t < MAX_THINGS; t++) {
                marked[t] = false;
            }
        }

        /** Marks t and all that descend from it. */
        void markFrom(Yard yard, int t) {
            clearMarks();
            marked[t] = true;
            boolean more = true;
            for (int round = 0; round <= MAX_DEPTH && more; round++) {
                more = false;
                for (int x = 0; x < yard.thingCount; x++) {
                    Thing child = yard.thingOf(x);
                    if (!marked[x] && (isMarked(child.mother) || isMarked(child.father))) {
                        marked[x] = true;
                        more = true;
                    }
                }
            }
        }

        /** The greatest DEPTH if t, from which the marks go out, had these parents; the DEPTHS are kept for writeDepths(). */
        int deepestWith(Yard yard, int t, int mother, int father) {
            for (int x = 0; x < yard.thingCount; x++) {
                depths[x] = yard.thingOf(x).depth;
            }
            depths[t] = depthBelow(mother, father);
            int deepest = depths[t];
            // A parent's old DEPTH is less than its child's: so its new one is known first.
            for (int level = 1; level <= MAX_DEPTH; level++) {
                for (int x = 0; x < yard.thingCount; x++) {
                    Thing child = yard.thingOf(x);
                    if (x != t && marked[x] && child.depth == level) {
                        depths[x] = depthBelow(child.mother, child.father);
                        deepest = Math.max(deepest, depths[x]);
                    }
                }
            }
            return deepest;
        }

        int depthBelow(int mother, int father) {
            int above = mother == NONE ? -1 : depths[mother];
            return 1 + Math.max(above, father == NONE ? -1 : depths[father]);
        }

        void writeDepths(Yard yard) {
            for (int x = 0; x < yard.thingCount; x++) {
                yard.thingOf(x).depth = depths[x];
            }
        }

        int kinParts(Yard yard, int a, int b) {
            gatherAncestors(yard, a, b);
            sortByDepth(yard);
            makePairs();
            for (int i = 1; i < ordered; i++) {
                Thing later = yard.thingOf(order[i]);
                for (int j = 0; j < i; j++) {
                    long sum = (long) parentParts(later.mother, j) + parentParts(later.father, j);
                    pairs[pairIndex(i, j)] = (int) (sum / 2);
                }
            }
            return partsOf(ranks[a], ranks[b]);
        }

        void gatherAncestors(Yard yard, int a, int b) {
            clearMarks();
            ordered = 0;
            gather(a);
            gather(b);
            for (int i = 0; i < ordered && i < MAX_THINGS; i++) {
                Thing child = yard.thingOf(order[i]);
                gather(child.mother);
                gather(child.father);
            }
        }

        void gather(int t) {
            if (t != NONE && !marked[t] && ordered < MAX_THINGS) {
                marked[t] = true;
                order[ordered] = t;
                ordered++;
            }
        }

        void sortByDepth(Yard yard) {
            for (int i = 1; i < ordered; i++) {
                int t = order[i];
                int j = i;
                while (j > 0 && isBehind(yard, order[j - 1], t)) {
                    order[j] = order[j - 1];
                    j--;
                }
                order[j] = t;
            }
            for (int i = 0; i < ordered; i++) {
                ranks[order[i]] = i;
            }
        }

        boolean isBehind(Yard yard, int a, int b) {
            int depthA = yard.thingOf(a).depth;
            int depthB = yard.thingOf(b).depth;
            return depthA > depthB || (depthA == depthB && a > b);
        }

        /** Twice what is needed, so that a growing family seldom needs a new row. */
        void makePairs() {
            int needed = ordered * (ordered - 1) / 2;
            if (pairs.length < needed) {
                pairs = new int[needed * 2];
            }
        }

        int pairIndex(int greater, int less) {
            return greater * (greater - 1) / 2 + less;
        }

        int parentParts(int parent, int rank) {
            return parent == NONE ? 0 : partsOf(ranks[parent], rank);
        }

        int partsOf(int one, int other) {
            if (one == other) {
                return WHOLE;
            }
            return pairs[pairIndex(Math.max(one, other), Math.min(one, other))];
        }
    }

    /** THE PLAN: goes over sets of HIVES already treated, not over orders, since a set alone tells how late it is. */
    private static final class Plan {
        final Row order = new Row(MAX_PLANNED);
        final int[] hives = new int[MAX_PLANNED];
        final int[] days = new int[MAX_PLANNED];
        final int[] over = new int[MAX_PLANNED];
        final int[] fewest = new int[1 << MAX_PLANNED];
        int count = 0;

        /** The caller has looked that there are not too many, that each has WASHED, and that b is not 0 if there are any. */
        int make(Yard yard, int a, int b) {
            gather(yard, a, b);
            int all = (1 << count) - 1;
            fewest[all] = 0;
            for (int done = all - 1; done >= 0; done--) {
                fewest[done] = daysWith(done, bestNext(done));
            }
            order.begin(count);
            int done = 0;
            for (int i = 0; i < count; i++) {
                int next = bestNext(done);
                order.items[i] = hives[next];
                done |= 1 << next;
            }
            return fewest[0];
        }

        void gather(Yard yard, int a, int b) {
            count = 0;
            for (int h = 0; h < yard.hiveCount && count < MAX_PLANNED; h++) {
                Hive hive = yard.hiveOf(h);
                if (hive.treatDays > 0) {
                    hives[count] = h;
                    days[count] = hive.treatDays;
                    over[count] = overFrom(hive, a, b);
                    count++;
                }
            }
        }

        int overFrom(Hive hive, int a, int b) {
            long missing = (long) a * hive.washed - (long) hive.mites * b;
            long perDay = (long) hive.treatGrowth * b;
            if (missing < 0 || perDay == 0) {
                return 0;
            }
            // No treating ends as late as that.
            return (int) Math.min(missing / perDay + 1, 100000);
        }

        /** The HIVE with the least number among those that are best to be next. */
        int bestNext(int done) {
            int best = NONE;
            for (int i = 0; i < count; i++) {
                if ((done & (1 << i)) == 0 && (best == NONE || daysWith(done, i) < daysWith(done, best))) {
                    best = i;
                }
            }
            return best;
        }

        int daysWith(int done, int next) {
            int end = days[next];
            for (int i = 0; i < count; i++) {
                if ((done & (1 << i)) != 0) {
                    end += days[i];
                }
            }
            return Math.max(0, end - over[next]) + fewest[done | (1 << next)];
        }
    }

    /** A row that is kept until the next one of its sort is made. */
    private static final class Row {
        final int[] items;
        int count = 0;
        boolean made = false;

        Row(int most) {
            items = new int[most];
        }

        void begin(int itemCount) {
            count = itemCount;
            made = true;
        }

        int fault(int i) {
            if (!made) {
                return LACKING;
            }
            return i < 0 || i >= count ? BEYOND : FINE;
        }
    }
}
