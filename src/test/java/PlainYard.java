import java.util.ArrayList;
import java.util.Arrays;
import java.util.HashMap;
import java.util.List;
import java.util.Map;
import java.util.TreeSet;

/** The document told a second time, without a thought for speed or room: what BeeYard is held against. */
final class PlainYard {
    static final class Refused extends RuntimeException {
        private static final long serialVersionUID = 1L;
        final int status;

        Refused(int status) {
            super(null, null, false, false);
            this.status = status;
        }
    }

    static final class Comb {
        int number;
        int[] fields;
    }

    static final class Hive {
        List<Comb[]> boxes = new ArrayList<>();
        int bees;
        int drones;
        int hunger;
        int finding;
        int washings;
        int mites;
        int washed;
        int days;
        int growth;
        Thing slot;
    }

    static final class Thing {
        int number;
        int kind;
        int days;
        int rate;
        int sire = -1;
        int load;
        Thing mother;
        Thing father;
        Thing inside;
    }

    static final class State {
        List<Hive> hives = new ArrayList<>();
        List<Comb> combs = new ArrayList<>();
        List<Thing> things = new ArrayList<>();
        List<int[]> ledger = new ArrayList<>();
        Comb[] bench = new Comb[24];
        int days;
        int harvested;
        int eaten;
        int spilt;
        int brought;
    }

    private State s = new State();
    private State earlier = null;
    private final int[] runs = new int[17];
    private int nextNumber = 0;
    private int moved = 0;
    private int status = 0;
    private int[] shares = null;
    private int[] order = null;
    private char[] letters = null;

    /** Runs the call with this name; sets STATUS as the document says. */
    int call(String name, int[] a) {
        switch (name) {
            case "moved":
                return moved;
            case "trace":
                return a[0] >= 0 && a[0] <= 16 ? runs[a[0]] : 0;
            case "digest":
                return digest();
            case "status":
                return status;
            default:
                break;
        }
        try {
            int answer = run(name, a);
            status = 0;
            return answer;
        } catch (Refused r) {
            status = r.status;
            return -1;
        }
    }

    int hives() {
        return s.hives.size();
    }

    int things() {
        return s.things.size();
    }

    int frames() {
        return s.combs.size();
    }

    int placeOrBench(int n) {
        return where(n);
    }

    int entries() {
        return s.ledger.size();
    }

    private int run(String name, int[] a) {
        switch (name) {
            case "hive": return hive(a[0]);
            case "box": return box(a[0]);
            case "frame": return frame(a[0], a[1]);
            case "out": return out(a[0]);
            case "back": return back(a[0], a[1]);
            case "at": return combAt(a[0]).number;
            case "where": return where(a[0]);
            case "field": return fieldOf(a[0], a[1])[a[1]];
            case "put": return put(a[0], a[1], a[2]);
            case "bring": return bring(a[0], a[1]);
            case "harvest": return harvest(a[0]);
            case "ledger": return ledger(a[0], a[1]);
            case "honey": return honey(a[0]);
            case "move": return move(a[0], a[1], a[2]);
            case "stack": return stack(a[0], a[1]);
            case "join": return join(a[0], a[1]);
            case "split": return split(a[0], a[1], a[2]);
            case "thing": return thing(a[0]);
            case "line": return line(a[0], a[1], a[2]);
            case "kin": return kinOf(t(a[0]), t(a[1]), new HashMap<>());
            case "ask": return ask(a[0], a[1]);
            case "slot": return slot(a[0], a[1]);
            case "lay": return lay(a[0], a[1]);
            case "mate": return mate(a[0], a[1]);
            case "day": return day(a[0]);
            case "swarm": return swarm(a[0], a[1]);
            case "settle": return settle(a[0], a[1]);
            case "share": return share(a[0], a[1]);
            case "shared": return ofRow(shares, a[0]);
            case "sample": return sample(a[0], a[1], a[2]);
            case "mites": return mites(a[0], a[1]);
            case "compare": return compare(a[0], a[1]);
            case "treat": return treat(a[0]);
            case "due": return due(a[0], a[1], a[2]);
            case "plan": return plan(a[0], a[1]);
            case "chosen": return ofRow(order, a[0]);
            case "inspect": return inspect(a[0], a[1]);
            case "gap": return gap(a[0]);
            case "find": return find(a[0], a[1]);
            case "export": return export(a[0]);
            case "letter": return letter(a[0]);
            case "copy": return copy(a[0], a[1], a[2]);
            case "undo": return undo();
            default: throw new IllegalStateException(name);
        }
    }

    private static void refuse(boolean when, int with) {
        if (when) {
            throw new Refused(with);
        }
    }

    private static boolean outside(int v, int low, int high) {
        return v < low || v > high;
    }

    private Hive h(int h) {
        refuse(outside(h, 0, 39), 2);
        refuse(h >= s.hives.size(), 1);
        return s.hives.get(h);
    }

    private Thing t(int t) {
        refuse(outside(t, 0, 199), 2);
        refuse(t >= s.things.size(), 1);
        return s.things.get(t);
    }

    private Comb[] boxOf(int p) {
        refuse(outside(p, 0, 3839), 2);
        refuse(p / 96 >= s.hives.size(), 1);
        Hive hive = s.hives.get(p / 96);
        refuse(p % 96 / 12 >= hive.boxes.size(), 1);
        return hive.boxes.get(p % 96 / 12);
    }

    private Comb combAt(int p) {
        Comb comb = boxOf(p)[p % 12];
        refuse(comb == null, 1);
        return comb;
    }

    private int[] fieldOf(int p, int i) {
        int[] fields = combAt(p).fields;
        refuse(outside(i, 0, fields.length - 1), 2);
        return fields;
    }

    private static int ofRow(int[] row, int i) {
        refuse(row == null, 1);
        refuse(outside(i, 0, row.length - 1), 2);
        return row[i];
    }

    /** A deep copy of all is kept ahead of each CHANGE. */
    private void change() {
        earlier = copyOf(s);
    }

    private static State copyOf(State from) {
        State to = new State();
        to.days = from.days;
        to.harvested = from.harvested;
        to.eaten = from.eaten;
        to.spilt = from.spilt;
        to.brought = from.brought;
        for (int[] entry : from.ledger) {
            to.ledger.add(entry.clone());
        }
        for (Comb comb : from.combs) {
            Comb c = new Comb();
            c.number = comb.number;
            c.fields = comb.fields.clone();
            to.combs.add(c);
        }
        for (int k = 0; k < 24; k++) {
            to.bench[k] = from.bench[k] == null ? null : to.combs.get(from.bench[k].number);
        }
        for (Thing thing : from.things) {
            Thing c = new Thing();
            c.number = thing.number;
            c.kind = thing.kind;
            c.days = thing.days;
            c.rate = thing.rate;
            c.sire = thing.sire;
            c.load = thing.load;
            to.things.add(c);
        }
        for (Thing thing : from.things) {
            Thing c = to.things.get(thing.number);
            c.mother = like(to, thing.mother);
            c.father = like(to, thing.father);
            c.inside = like(to, thing.inside);
        }
        for (Hive hive : from.hives) {
            to.hives.add(copyOf(hive, to));
        }
        return to;
    }

    private static Hive copyOf(Hive hive, State to) {
        Hive c = new Hive();
        for (Comb[] box : hive.boxes) {
            Comb[] b = new Comb[12];
            for (int i = 0; i < 12; i++) {
                b[i] = box[i] == null ? null : to.combs.get(box[i].number);
            }
            c.boxes.add(b);
        }
        c.bees = hive.bees;
        c.drones = hive.drones;
        c.hunger = hive.hunger;
        c.finding = hive.finding;
        c.washings = hive.washings;
        c.mites = hive.mites;
        c.washed = hive.washed;
        c.days = hive.days;
        c.growth = hive.growth;
        c.slot = like(to, hive.slot);
        return c;
    }

    private static Thing like(State to, Thing thing) {
        return thing == null ? null : to.things.get(thing.number);
    }

    private int undo() {
        if (earlier == null) {
            return 0;
        }
        s = earlier;
        earlier = null;
        return 1;
    }

    private int hive(int bees) {
        refuse(outside(bees, 0, 20000) || s.hives.size() == 40, 6);
        change();
        Hive hive = new Hive();
        hive.bees = bees;
        s.hives.add(hive);
        return s.hives.size() - 1;
    }

    private int box(int h) {
        Hive hive = h(h);
        refuse(hive.boxes.size() == 8, 6);
        change();
        hive.boxes.add(new Comb[12]);
        return hive.boxes.size() - 1;
    }

    private int frame(int p, int n) {
        Comb[] box = boxOf(p);
        refuse(n > 64 || s.combs.size() == 200 || box[p % 12] != null, 6);
        refuse(n < 0, 5);
        change();
        Comb comb = new Comb();
        comb.number = s.combs.size();
        comb.fields = new int[n];
        s.combs.add(comb);
        box[p % 12] = comb;
        return comb.number;
    }

    private int out(int p) {
        Comb comb = combAt(p);
        int k = Arrays.asList(s.bench).indexOf(null);
        refuse(k < 0, 6);
        change();
        s.bench[k] = comb;
        boxOf(p)[p % 12] = null;
        return k;
    }

    private int back(int k, int p) {
        refuse(outside(k, 0, 23), 2);
        refuse(s.bench[k] == null, 1);
        Comb[] box = boxOf(p);
        refuse(box[p % 12] != null, 6);
        change();
        box[p % 12] = s.bench[k];
        s.bench[k] = null;
        return 1;
    }

    private int where(int n) {
        refuse(outside(n, 0, 199), 2);
        refuse(n >= s.combs.size(), 1);
        int k = Arrays.asList(s.bench).indexOf(s.combs.get(n));
        if (k >= 0) {
            return -2 - k;
        }
        for (int h = 0; h < s.hives.size(); h++) {
            List<Comb[]> boxes = s.hives.get(h).boxes;
            for (int b = 0; b < boxes.size(); b++) {
                int i = Arrays.asList(boxes.get(b)).indexOf(s.combs.get(n));
                if (i >= 0) {
                    return h * 96 + b * 12 + i;
                }
            }
        }
        throw new IllegalStateException("a FRAME is nowhere");
    }

    private static int honeyOf(int v) {
        return v >= 1 && v <= 100 ? v : 0;
    }

    private int put(int p, int i, int v) {
        fieldOf(p, i);
        refuse(v != 0 && v != 200 && v != 300 && v != 400, 6);
        change();
        int[] fields = fieldOf(p, i);
        int was = fields[i];
        s.spilt += honeyOf(was);
        fields[i] = v;
        return was;
    }

    /** The FRAMES of a HIVE, of BOXES and places from 0 on. */
    private static List<Comb> combs(Hive hive) {
        List<Comb> all = new ArrayList<>();
        for (Comb[] box : hive.boxes) {
            for (Comb comb : box) {
                if (comb != null) {
                    all.add(comb);
                }
            }
        }
        return all;
    }

    private int bring(int h, int n) {
        h(h);
        refuse(outside(n, 0, 10000), 6);
        change();
        int left = n;
        for (Comb comb : combs(h(h))) {
            for (int i = 0; i < comb.fields.length; i++) {
                while (left > 0 && comb.fields[i] >= 0 && comb.fields[i] <= 99) {
                    comb.fields[i]++;
                    left--;
                }
            }
        }
        s.brought += n;
        s.spilt += left;
        return n - left;
    }

    private int harvest(int p) {
        combAt(p);
        refuse(s.ledger.size() == 200, 6);
        change();
        int[] fields = combAt(p).fields;
        int sum = 0;
        for (int i = 0; i < fields.length; i++) {
            if (honeyOf(fields[i]) > 0) {
                sum += fields[i];
                fields[i] = 0;
            }
        }
        s.harvested += sum;
        s.ledger.add(new int[] {nextNumber++, p, sum});
        return sum;
    }

    private int ledger(int k, int what) {
        refuse(outside(k, 0, 199), 2);
        refuse(k >= s.ledger.size(), 1);
        refuse(outside(what, 0, 2), 2);
        return s.ledger.get(k)[what];
    }

    private int honey(int what) {
        refuse(outside(what, 0, 4), 6);
        int inFields = 0;
        for (Comb comb : s.combs) {
            inFields += Arrays.stream(comb.fields).map(PlainYard::honeyOf).sum();
        }
        return new int[] {inFields, s.harvested, s.eaten, s.spilt, s.brought}[what];
    }

    private int move(int from, int to, int n) {
        refuse(n > 12, 6);
        refuse(n < 0, 5);
        moved = 0;
        for (int k = 0; k < n; k++) {
            Comb source = combAt(from + k);
            Comb target = combAt(to + k);
            refuse(target.fields.length < source.fields.length, 2);
            if (k == 0) {
                change();
            }
            if (source != target) {
                for (int i = 0; i < source.fields.length; i++) {
                    s.spilt += honeyOf(target.fields[i]);
                    target.fields[i] = source.fields[i];
                    source.fields[i] = 0;
                }
            }
            moved++;
        }
        return n;
    }

    private int stack(int h, int g) {
        Hive giver = h(h);
        Hive taker = h(g);
        refuse(giver.boxes.isEmpty(), 2);
        refuse(h == g || taker.boxes.size() == 8, 6);
        change();
        taker.boxes.add(giver.boxes.remove(giver.boxes.size() - 1));
        return taker.boxes.size() - 1;
    }

    private int join(int h, int g) {
        Hive taker = h(h);
        Hive giver = h(g);
        refuse(h == g || taker.boxes.size() + giver.boxes.size() > 8, 6);
        change();
        int had = taker.boxes.size();
        taker.boxes.addAll(giver.boxes);
        giver.boxes.clear();
        taker.bees += giver.bees;
        giver.bees = 0;
        taker.drones += giver.drones;
        giver.drones = 0;
        taker.hunger += giver.hunger;
        giver.hunger = 0;
        taker.washings += giver.washings;
        giver.washings = 0;
        taker.mites += giver.mites;
        giver.mites = 0;
        taker.washed += giver.washed;
        giver.washed = 0;
        if (taker.slot == null) {
            taker.slot = giver.slot;
        }
        giver.slot = null;
        return had;
    }

    private int split(int h, int k, int g) {
        Hive giver = h(h);
        Hive taker = h(g);
        refuse(h == g || !taker.boxes.isEmpty(), 6);
        int all = giver.boxes.size();
        refuse(outside(k, 0, all), 2);
        refuse(all == 0, 4);
        change();
        int some = all - k;
        int bees = giver.bees * some / all;
        int drones = giver.drones * some / all;
        giver.bees -= bees;
        taker.bees += bees;
        giver.drones -= drones;
        taker.drones += drones;
        while (giver.boxes.size() > k) {
            taker.boxes.add(giver.boxes.remove(k));
        }
        return some;
    }

    private Thing newThing(int kind) {
        Thing thing = new Thing();
        thing.number = s.things.size();
        thing.kind = kind;
        s.things.add(thing);
        return thing;
    }

    private int thing(int kind) {
        refuse(outside(kind, 0, 3) || s.things.size() == 200, 6);
        change();
        return newThing(kind).number;
    }

    private static boolean queen(Thing thing) {
        return thing.kind <= 2;
    }

    private static boolean swarming(Thing thing) {
        return thing.kind >= 4;
    }

    private int line(int t, int mother, int father) {
        Thing child = t(t);
        Thing m = mother == -1 ? null : t(mother);
        refuse(m != null && !queen(m), 3);
        Thing f = father == -1 ? null : t(father);
        refuse(f != null && f.kind != 3, 3);
        refuse(child.kind == 3 && f != null, 6);
        TreeSet<Integer> above = new TreeSet<>();
        ancestors(m, above);
        ancestors(f, above);
        refuse(above.contains(t), 7);
        Thing oldMother = child.mother;
        Thing oldFather = child.father;
        child.mother = m;
        child.father = f;
        int deepest = 0;
        Map<Thing, Integer> depths = new HashMap<>();
        for (Thing thing : s.things) {
            deepest = Math.max(deepest, depth(thing, depths));
        }
        child.mother = oldMother;
        child.father = oldFather;
        refuse(deepest > 15, 6);
        change();
        child.mother = m;
        child.father = f;
        return depth(child, new HashMap<>());
    }

    /** The thing itself, its parents, and so on. */
    private static void ancestors(Thing thing, TreeSet<Integer> all) {
        if (thing != null && all.add(thing.number)) {
            ancestors(thing.mother, all);
            ancestors(thing.father, all);
        }
    }

    private static int depth(Thing thing, Map<Thing, Integer> known) {
        if (thing == null) {
            return -1;
        }
        Integer depth = known.get(thing);
        if (depth == null) {
            depth = 1 + Math.max(depth(thing.mother, known), depth(thing.father, known));
            known.put(thing, depth);
        }
        return depth;
    }

    private static int kinOf(Thing a, Thing b, Map<List<Thing>, Integer> known) {
        if (a == null || b == null) {
            return 0;
        }
        if (a == b) {
            return 1 << 30;
        }
        Map<Thing, Integer> depths = new HashMap<>();
        int byDepth = Integer.compare(depth(a, depths), depth(b, depths));
        boolean first = byDepth != 0 ? byDepth > 0 : a.number > b.number;
        Thing deep = first ? a : b;
        Thing other = first ? b : a;
        List<Thing> key = List.of(deep, other);
        Integer parts = known.get(key);
        if (parts == null) {
            long sum = (long) kinOf(deep.mother, other, known) + kinOf(deep.father, other, known);
            parts = (int) (sum / 2);
            known.put(key, parts);
        }
        return parts;
    }

    /** BODY b of a THING. */
    private int body(int b, Thing x) {
        runs[b]++;
        switch (b) {
            case 0: x.days++; return 0;
            case 1: return x.days;
            case 2: return 0;
            case 3: return body(1, x) + 1000;
            case 4: return 5;
            case 5: body(0, x); return body(0, x);
            case 6: return x.days <= 30 ? 0 : -body(4, x);
            case 7: return Math.max(0, body(4, x) + x.rate - x.days / 100);
            case 8: return -1 - body(1, x);
            case 9: body(0, x); x.load -= x.load / 10; return 0;
            case 10: return x.load;
            case 11: return body(1, x) + 5000;
            case 12: return Math.min(body(10, x), 1000);
            case 13: return body(LAYS[x.kind], x) != 0 ? 1 : 0;
            case 14: return body(TELLS[x.kind], x) > 1100 ? 1 : 0;
            case 15: return body(CARRIES[x.kind], x) > 0 ? 1 : 0;
            default: return body(AGES[x.kind], x);
        }
    }

    private static final int[] TELLS = {3, 3, 3, 8, 1, 11};
    private static final int[] AGES = {0, 5, 0, 0, 9, 9};
    private static final int[] CARRIES = {2, 2, 2, 2, 10, 12};
    private static final int[] LAYS = {4, 6, 7};

    private int ask(int t, int what) {
        Thing x = t(t);
        refuse(outside(what, 0, 14), 6);
        refuse((what == 4 || what == 7) && !queen(x), 3);
        refuse((what == 11 || what == 12) && x.kind != 2, 3);
        switch (what) {
            case 0: return x.kind;
            case 1: return x.days;
            case 2: return body(TELLS[x.kind], x);
            case 3: return body(CARRIES[x.kind], x);
            case 4: return body(LAYS[x.kind], x);
            case 5: return body(14, x);
            case 6: return body(15, x);
            case 7: return body(13, x);
            case 8: return x.mother == null ? -1 : x.mother.number;
            case 9: return x.father == null ? -1 : x.father.number;
            case 10: return depth(x, new HashMap<>());
            case 11: return x.rate;
            case 12: return x.sire;
            case 13: return slotOf(x);
            default: return around(x);
        }
    }

    private int slotOf(Thing x) {
        for (int h = 0; h < s.hives.size(); h++) {
            if (s.hives.get(h).slot == x) {
                return h;
            }
        }
        return -1;
    }

    private int around(Thing x) {
        for (Thing other : s.things) {
            if (other.inside == x) {
                return other.number;
            }
        }
        return -1;
    }

    private int slot(int h, int t) {
        Hive hive = h(h);
        Thing x = t == -1 ? null : t(t);
        refuse(x != null && (slotOf(x) >= 0 || around(x) >= 0), 6);
        change();
        int was = hive.slot == null ? -1 : hive.slot.number;
        hive.slot = x;
        return was;
    }

    private int lay(int t, int n) {
        Thing x = t(t);
        refuse(x.kind != 2, 3);
        refuse(outside(n, 0, 200), 6);
        change();
        int was = x.rate;
        x.rate = n;
        return was;
    }

    private int mate(int v, int d) {
        Thing virgin = t(v);
        refuse(virgin.kind != 1, 3);
        refuse(t(d).kind != 3, 3);
        change();
        virgin.kind = 2;
        virgin.rate = 0;
        virgin.sire = d;
        return 1;
    }

    private int day(int n) {
        refuse(outside(n, 1, 30), 6);
        change();
        for (int i = 0; i < n; i++) {
            s.days++;
            for (Thing x : s.things) {
                body(16, x);
            }
            for (Hive hive : s.hives) {
                grow(hive);
                layIn(hive);
                eat(hive);
                hive.bees -= hive.bees / 40;
            }
        }
        return s.days;
    }

    private static void grow(Hive hive) {
        for (Comb comb : combs(hive)) {
            for (int i = 0; i < comb.fields.length; i++) {
                int v = comb.fields[i];
                if (v == 320) {
                    hive.bees++;
                    comb.fields[i] = 0;
                } else if (v == 423) {
                    hive.drones++;
                    comb.fields[i] = 0;
                } else if (v >= 300) {
                    comb.fields[i]++;
                }
            }
        }
    }

    private void layIn(Hive hive) {
        int n = 0;
        hive.finding = 0;
        if (hive.slot == null) {
            hive.finding = 1;
        } else if (!queen(hive.slot)) {
            hive.finding = 3;
        } else {
            n = body(LAYS[hive.slot.kind], hive.slot);
        }
        for (int i = 0; i < Math.abs(n); i++) {
            layOne(hive, n < 0 ? 400 : 300);
        }
    }

    private static final int[] PLACES = {6, 5, 7, 4, 8, 3, 9, 2, 10, 1, 11, 0};

    private static void layOne(Hive hive, int value) {
        for (Comb[] box : hive.boxes) {
            for (int place : PLACES) {
                Comb comb = box[place];
                for (int k = 0; comb != null && k < 32; k++) {
                    for (int i : new int[] {32 + k, 31 - k}) {
                        if (i < comb.fields.length && comb.fields[i] == 0) {
                            comb.fields[i] = value;
                            return;
                        }
                    }
                }
            }
        }
    }

    private void eat(Hive hive) {
        hive.hunger += hive.bees + hive.drones;
        while (hive.hunger >= 100) {
            hive.hunger -= 100;
            if (eatOne(hive)) {
                s.eaten++;
            } else {
                hive.bees -= Math.min(100, hive.bees);
            }
        }
    }

    private static boolean eatOne(Hive hive) {
        for (Comb comb : combs(hive)) {
            for (int i = 0; i < comb.fields.length; i++) {
                if (honeyOf(comb.fields[i]) > 0) {
                    comb.fields[i]--;
                    return true;
                }
            }
        }
        return false;
    }

    private int swarm(int h, int kind) {
        Hive hive = h(h);
        refuse(outside(kind, 4, 5) || s.things.size() == 200, 6);
        change();
        Thing swarm = newThing(kind);
        swarm.load = hive.bees / (kind == 4 ? 2 : 3);
        hive.bees -= swarm.load;
        if (kind == 4) {
            swarm.inside = hive.slot;
            hive.slot = null;
        }
        return swarm.number;
    }

    private int settle(int t, int h) {
        Thing swarm = t(t);
        refuse(!swarming(swarm), 3);
        Hive hive = h(h);
        change();
        int came = body(CARRIES[swarm.kind], swarm);
        hive.bees += came;
        swarm.load = 0;
        if (hive.slot == null) {
            hive.slot = swarm.inside;
        }
        swarm.inside = null;
        return came;
    }

    private int share(int h, int n) {
        int bees = h(h).bees;
        refuse(n > 100, 6);
        refuse(n < 0, 5);
        refuse(n == 0, 4);
        shares = new int[n];
        for (int i = 0; i < bees; i++) {
            shares[i % n]++;
        }
        return bees / n;
    }

    private int sample(int h, int m, int b) {
        Hive hive = h(h);
        refuse(outside(m, 0, 10000) || outside(b, 0, 10000), 6);
        refuse(b == 0, 4);
        change();
        hive.mites += m;
        hive.washed += b;
        return ++hive.washings;
    }

    private int mites(int h, int what) {
        Hive hive = h(h);
        refuse(outside(what, 0, 3), 6);
        refuse(what >= 2 && hive.washed == 0, 4);
        if (what < 2) {
            return what == 0 ? hive.mites : hive.washed;
        }
        int divisor = java.math.BigInteger.valueOf(hive.mites).gcd(java.math.BigInteger.valueOf(hive.washed)).intValue();
        return (what == 2 ? hive.mites : hive.washed) / divisor;
    }

    private int compare(int h, int g) {
        Hive a = h(h);
        Hive b = h(g);
        refuse(a.washed == 0 || b.washed == 0, 4);
        return 1 + Long.compare((long) a.mites * b.washed, (long) b.mites * a.washed);
    }

    private int treat(int h) {
        Hive hive = h(h);
        change();
        hive.washings = 0;
        hive.mites = 0;
        hive.washed = 0;
        return 1;
    }

    private int due(int h, int days, int growth) {
        Hive hive = h(h);
        refuse((days != 0 || growth != 0) && (outside(days, 1, 30) || outside(growth, 1, 1000)), 6);
        change();
        hive.days = days;
        hive.growth = growth;
        return 1;
    }

    private int plan(int a, int b) {
        refuse(outside(a, 0, 10000) || outside(b, 0, 10000), 6);
        List<Integer> treated = new ArrayList<>();
        boolean lacking = false;
        for (int h = 0; h < s.hives.size(); h++) {
            if (s.hives.get(h).days > 0) {
                treated.add(h);
                lacking |= s.hives.get(h).washed == 0;
            }
        }
        refuse(treated.size() > 8, 8);
        refuse(lacking || (b == 0 && !treated.isEmpty()), 4);
        int[] overs = new int[40];
        for (int h : treated) {
            Hive hive = s.hives.get(h);
            // No end lies behind day 240.
            while (overs[h] < 300 && ((long) hive.mites + (long) overs[h] * hive.growth) * b <= (long) a * hive.washed) {
                overs[h]++;
            }
        }
        order = new int[treated.size()];
        best = Integer.MAX_VALUE;
        tryOrders(treated, overs, new ArrayList<>(), 0, 0);
        return best;
    }

    private int best;

    /** All orders, the least numbers first: so of like ones the first is kept. */
    private void tryOrders(List<Integer> treated, int[] overs, List<Integer> chosen, int end, int sum) {
        if (chosen.size() == treated.size()) {
            if (sum < best) {
                best = sum;
                order = chosen.stream().mapToInt(x -> x).toArray();
            }
            return;
        }
        for (int h : treated) {
            if (!chosen.contains(h)) {
                int itsEnd = end + s.hives.get(h).days;
                chosen.add(h);
                tryOrders(treated, overs, chosen, itsEnd, sum + Math.max(0, itsEnd - overs[h]));
                chosen.remove(chosen.size() - 1);
            }
        }
    }

    private int inspect(int h, int what) {
        Hive hive = h(h);
        refuse(outside(what, 0, 11), 6);
        int[] counts = new int[12];
        counts[0] = hive.bees;
        counts[1] = hive.drones;
        counts[2] = hive.hunger;
        counts[3] = hive.boxes.size();
        counts[4] = hive.finding;
        counts[5] = hive.boxes.size() * 12 - combs(hive).size();
        for (Comb comb : combs(hive)) {
            for (int v : comb.fields) {
                counts[6] += honeyOf(v);
                int age = v % 100;
                if (v >= 300) {
                    counts[age < 3 ? 7 : age < 9 ? 8 : 9]++;
                } else if (v == 0 || v == 200) {
                    counts[v == 0 ? 10 : 11]++;
                }
            }
        }
        return counts[what];
    }

    private int gap(int h) {
        Hive hive = h(h);
        for (int i = 0; i < hive.boxes.size() * 12; i++) {
            if (hive.boxes.get(i / 12)[i % 12] == null) {
                return h * 96 + i;
            }
        }
        return -1;
    }

    private int find(int v, int from) {
        refuse(outside(from, 0, 3839), 2);
        for (int p = from; p < 3840; p++) {
            try {
                if (Arrays.stream(combAt(p).fields).anyMatch(x -> x == v)) {
                    return p;
                }
            } catch (Refused nothingThere) {
                continue;
            }
        }
        return -1;
    }

    private int export(int p) {
        int[] fields = combAt(p).fields;
        letters = new char[fields.length];
        for (int i = 0; i < fields.length; i++) {
            int v = fields[i];
            if (v < 300) {
                letters[i] = v == 0 ? '.' : v == 200 ? 'p' : 'h';
            } else {
                char c = "eeebbbbbbsssssssssssssssss".charAt(v % 100);
                letters[i] = v >= 400 ? Character.toUpperCase(c) : c;
            }
        }
        return fields.length;
    }

    private int letter(int i) {
        refuse(letters == null, 1);
        refuse(outside(i, 0, letters.length - 1), 2);
        return letters[i];
    }

    private int copy(int i, int j, int n) {
        refuse(letters == null, 1);
        int all = letters.length;
        refuse(n < 0 || outside(i, 0, all) || outside(j, 0, all), 2);
        refuse((long) i + n > all || (long) j + n > all, 2);
        char[] were = letters.clone();
        for (int k = 0; k < n; k++) {
            letters[j + k] = were[i + k];
        }
        return n;
    }

    private int digest() {
        List<Integer> all = new ArrayList<>();
        all.add(s.hives.size());
        for (Hive hive : s.hives) {
            all.addAll(List.of(hive.bees, hive.drones, hive.hunger, hive.boxes.size(), hive.mites, hive.washed));
        }
        all.add(s.combs.size());
        for (Comb comb : s.combs) {
            all.add(comb.fields.length);
            for (int v : comb.fields) {
                all.add(v);
            }
        }
        all.add(s.things.size());
        for (Thing x : s.things) {
            all.addAll(List.of(x.kind, x.days));
        }
        all.add(s.days);
        for (int what = 0; what < 5; what++) {
            all.add(honey(what));
        }
        all.add(s.ledger.size());
        for (int count : runs) {
            all.add(count);
        }
        int d = 17;
        for (int x : all) {
            d = d * 31 + x;
        }
        return d;
    }
}
