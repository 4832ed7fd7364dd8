import java.util.ArrayList;
import java.util.List;
import java.util.Random;

/**
 * Promises 6 to 11 and 15 to 25 against an oracle that goes every single way, hour by hour, and looks at each trace of
 * it as the document's words say. The maps are drawn from fixed seeds.
 */
public final class WaysTest extends Checks {
    private static final int MOST_WAYS = 4000;

    private record Land(int how) { }

    private record Town(int land, int clock) { }

    private record Link(int from, int to, boolean daily, int hour, int lasts, int price) {
        boolean leaves(int h) {
            return daily ? h % 24 == hour : h == hour;
        }
    }

    private record Trace(int kind, int place, int from, int to, boolean out) { }

    private record Stamp(int land, boolean out, int day) { }

    private record World(List<Land> lands, List<Town> towns, List<Link> links) {
        String text() {
            String[] how = {"none", "in", "out", "both"};
            StringBuilder out = new StringBuilder();
            for (int i = 0; i < lands.size(); i++) {
                out.append("land l").append((char) ('a' + i)).append(' ').append(how[lands.get(i).how]).append(';');
            }
            for (int i = 0; i < towns.size(); i++) {
                Town t = towns.get(i);
                out.append("town ").append((char) ('a' + i)).append(" of l").append((char) ('a' + t.land));
                if (t.clock != 0) {
                    out.append(t.clock > 0 ? " plus" : " minus").append(Math.abs(t.clock));
                }
                out.append(';');
            }
            for (Link k : links) {
                out.append(k.daily ? "run " : "sail ").append((char) ('a' + k.from)).append(' ');
                out.append((char) ('a' + k.to)).append(" at").append(k.hour).append("for").append(k.lasts);
                out.append("cost").append(k.price).append(";");
            }
            return out.toString();
        }
    }

    /** One way: at each hour the town (or -1, under way) and the link taken (or -1). */
    private static final class Way {
        final int[] where = new int[97];
        final int[] taken = new int[97];
        final List<Stamp> stamps = new ArrayList<>();
        int cost;
        int legs;

        Way(World world, int[] moves, int home, int end) {
            java.util.Arrays.fill(where, -1);
            java.util.Arrays.fill(taken, -1);
            int t = home;
            int h = 0;
            while (h < end) {
                where[h] = t;
                int k = moves[h];
                taken[h] = k;
                if (k < 0) {
                    h++;
                    continue;
                }
                Link link = world.links.get(k);
                Town a = world.towns.get(link.from);
                Town b = world.towns.get(link.to);
                if (a.land != b.land) {
                    if (world.lands.get(a.land).how >= 2) {
                        stamps.add(new Stamp(a.land, true, Math.floorDiv(h + a.clock, 24)));
                    }
                    if (world.lands.get(b.land).how % 2 == 1) {
                        stamps.add(new Stamp(b.land, false, Math.floorDiv(h + link.lasts + b.clock, 24)));
                    }
                }
                h += link.lasts;
                t = link.to;
                cost += link.price;
                legs++;
            }
            where[end] = t;
        }
    }

    private static final class Person {
        int home;
        int sleep;
        int end = 96;
        final List<Trace> traces = new ArrayList<>();
        int doubted;
        List<Way> ways = new ArrayList<>();

        boolean fits(Way w, int off) {
            List<Trace> row = new ArrayList<>();
            for (int i = 0; i < traces.size(); i++) {
                Trace t = traces.get(i);
                if ((off >> i & 1) != 0) {
                    continue;
                }
                if (t.kind == 0) {
                    row.add(t);
                } else if (!isThere(w, t)) {
                    return false;
                }
            }
            return stampBar(w, row) < 0;
        }

        boolean isThere(Way w, Trace t) {
            if (t.kind == 1) {
                return t.from > end || w.where[t.from] == t.place;
            }
            for (int h = t.from; h <= Math.min(end, t.to); h++) {
                if (w.where[h] == t.place) {
                    return true;
                }
            }
            return false;
        }

        static int stampBar(Way w, List<Trace> row) {
            for (int i = 0; i < Math.max(row.size(), w.stamps.size()); i++) {
                if (i >= row.size() || i >= w.stamps.size()) {
                    return i;
                }
                Trace t = row.get(i);
                Stamp s = w.stamps.get(i);
                if (t.place != s.land || t.out != s.out || s.day < t.from || s.day > t.to) {
                    return i;
                }
            }
            return -1;
        }

        int sleepBar(Way w) {
            for (int d = 0; 24 * d + 8 <= end; d++) {
                int stays = 0;
                for (int h = 24 * d; h < 24 * d + 8; h++) {
                    if (w.where[h] >= 0 && w.taken[h] < 0) {
                        stays++;
                    }
                }
                if (stays < sleep) {
                    return d;
                }
            }
            return -1;
        }

        List<Way> fitting(int off) {
            List<Way> out = new ArrayList<>();
            for (Way w : ways) {
                if (fits(w, off)) {
                    out.add(w);
                }
            }
            return out;
        }
    }

    private static boolean go(World world, Person p, int[] moves, int t, int h) {
        if (h == p.end) {
            Way w = new Way(world, moves, p.home, p.end);
            if (p.sleepBar(w) < 0) {
                p.ways.add(w);
            }
            return p.ways.size() <= MOST_WAYS;
        }
        moves[h] = -1;
        if (!go(world, p, moves, t, h + 1)) {
            return false;
        }
        for (int k = 0; k < world.links.size(); k++) {
            Link link = world.links.get(k);
            if (link.from == t && link.leaves(h) && h + link.lasts <= p.end) {
                moves[h] = k;
                if (!go(world, p, moves, link.to, h + link.lasts)) {
                    return false;
                }
            }
        }
        moves[h] = -1;
        return true;
    }

    private static World draw(Random r) {
        List<Land> lands = new ArrayList<>();
        List<Town> towns = new ArrayList<>();
        List<Link> links = new ArrayList<>();
        int many = 1 + r.nextInt(4);
        for (int i = 0; i < many; i++) {
            lands.add(new Land(r.nextInt(5) == 0 ? r.nextInt(4) : 3));
        }
        many = 2 + r.nextInt(5);
        for (int i = 0; i < many; i++) {
            towns.add(new Town(r.nextInt(lands.size()), r.nextInt(3) == 0 ? 0 : r.nextInt(25) - 12));
        }
        many = 1 + r.nextInt(9);
        for (int i = 0; i < many; i++) {
            int a = r.nextInt(towns.size());
            int b = (a + 1 + r.nextInt(towns.size() - 1)) % towns.size();
            boolean daily = r.nextInt(3) != 0;
            int lasts = r.nextInt(4) == 0 ? 1 + r.nextInt(48) : 1 + r.nextInt(9);
            links.add(new Link(a, b, daily, daily ? r.nextInt(24) : r.nextInt(96), lasts, r.nextInt(6)));
        }
        return new World(lands, towns, links);
    }

    /** Traces that a real way left, some of them blurred, some of them spoilt. */
    private static void leaveTraces(Random r, World world, Person p, StampTales x, int man) {
        Way w = p.ways.get(r.nextInt(p.ways.size()));
        for (Stamp s : w.stamps) {
            if (r.nextInt(8) == 0) {
                continue;
            }
            int day = r.nextInt(8) == 0 ? r.nextInt(7) - 1 : s.day;
            int from = Math.max(-1, day - r.nextInt(2));
            int to = Math.min(5, day + r.nextInt(2));
            boolean out = r.nextInt(12) == 0 ? !s.out : s.out;
            add(p, x, man, new Trace(0, s.land, from, to, out));
            more(r, world, p, x, man, w);
        }
        more(r, world, p, x, man, w);
        more(r, world, p, x, man, w);
        for (int i = 0; i < p.traces.size(); i++) {
            if (r.nextInt(7) == 0) {
                p.doubted |= 1 << i;
                due("doubt", x.doubt(man, i, true) ? 1 : 0, 1);
            }
        }
    }

    private static void more(Random r, World world, Person p, StampTales x, int man, Way w) {
        int h = r.nextInt(97);
        int place = h <= p.end && w.where[h] >= 0 && r.nextInt(5) != 0 ? w.where[h] : r.nextInt(world.towns.size());
        int what = r.nextInt(8);
        if (what == 0) {
            add(p, x, man, new Trace(1, place, h, h, false));
        } else if (what == 1) {
            add(p, x, man, new Trace(2, place, Math.max(0, h - r.nextInt(9)), Math.min(96, h + r.nextInt(9)), false));
        } else if (what == 2 && r.nextInt(3) == 0) {
            int from = r.nextInt(7) - 1;
            int land = r.nextInt(world.lands.size());
            add(p, x, man, new Trace(0, land, from, from + r.nextInt(6 - from), r.nextBoolean()));
        }
    }

    private static void add(Person p, StampTales x, int man, Trace t) {
        int like = 0;
        for (Trace other : p.traces) {
            like += other.kind == t.kind ? 1 : 0;
        }
        boolean full = p.traces.size() == 8 || t.kind == 0 && like == 6 || t.kind == 2 && like == 2;
        int want = full ? -1 : p.traces.size();
        if (!full) {
            p.traces.add(t);
        }
        if (t.kind == 0) {
            due("stamp", x.stamp(man, t.place, t.out, t.from, t.to), want);
        } else if (t.kind == 1) {
            due("paper", x.paper(man, t.place, t.from), want);
        } else {
            due("look", x.look(man, t.place, t.from, t.to), want);
        }
    }

    private static int[] where(Person p, List<Way> fitting, World world) {
        int[] may = new int[97];
        for (Way w : fitting) {
            for (int h = 0; h <= p.end; h++) {
                may[h] |= w.where[h] >= 0 ? 1 << w.where[h] : 256;
            }
        }
        return may;
    }

    private static void ask(String name, World world, Person p, StampTales x, int man) {
        List<Way> fitting = p.fitting(p.doubted);
        due(name + " ways", x.ways(man), fitting.size());
        int[] may = where(p, fitting, world);
        for (int h = 0; h <= 97; h++) {
            due(name + " may " + h, x.may(man, h), h > p.end ? -1 : may[h]);
            due(name + " surely " + h, x.surely(man, h), h > p.end ? -1 : surely(fitting, h));
        }
        askExtremes(name, fitting, x, man);
        due(name + " toDoubt", x.toDoubt(man), toDoubt(p));
        int away = -1;
        int most = fitting.size();
        for (int i = 0; i < p.traces.size(); i++) {
            int n = p.fitting(p.doubted | 1 << i).size();
            if ((p.doubted >> i & 1) == 0 && n > most) {
                most = n;
                away = i;
            }
        }
        due(name + " away", x.away(man), away);
    }

    private static int surely(List<Way> fitting, int h) {
        int town = fitting.isEmpty() ? -1 : fitting.get(0).where[h];
        for (Way w : fitting) {
            town = w.where[h] == town ? town : -1;
        }
        return town;
    }

    private static int toDoubt(Person p) {
        for (int many = 0; many <= 8; many++) {
            for (int bits = 0; bits < 1 << p.traces.size(); bits++) {
                if (Integer.bitCount(bits) == many && (bits & p.doubted) == 0 && anyFits(p, p.doubted | bits)) {
                    return bits;
                }
            }
        }
        return -1;
    }

    private static boolean anyFits(Person p, int off) {
        for (Way w : p.ways) {
            if (p.fits(w, off)) {
                return true;
            }
        }
        return false;
    }

    private static void askExtremes(String name, List<Way> fitting, StampTales x, int man) {
        int[] best = {-1, -1, -1, -1};
        Way tale = null;
        for (Way w : fitting) {
            best[0] = best[0] < 0 ? w.cost : Math.min(best[0], w.cost);
            best[1] = Math.max(best[1], w.cost);
            best[2] = best[2] < 0 ? w.legs : Math.min(best[2], w.legs);
            best[3] = Math.max(best[3], w.legs);
            if (tale == null || w.cost < tale.cost || w.cost == tale.cost && isAhead(w, tale)) {
                tale = w;
            }
        }
        for (int i = 0; i < 4; i++) {
            due(name + " extreme " + i, x.extreme(man, i), best[i]);
        }
        due(name + " tale", x.tale(man, -1), tale == null ? -1 : tale.legs);
        int k = 0;
        for (int h = 0; tale != null && h < 96; h++) {
            if (tale.taken[h] >= 0) {
                due(name + " tale " + k, x.tale(man, k), tale.taken[h] * 100 + h);
                k++;
            }
        }
        due(name + " tale " + k, x.tale(man, k), -1);
    }

    private static boolean isAhead(Way one, Way other) {
        for (int h = 0; h < 96; h++) {
            if (one.taken[h] != other.taken[h]) {
                return one.taken[h] < other.taken[h];
            }
        }
        return false;
    }

    private static void askMet(String name, World world, Person[] p, StampTales x) {
        List<Way> one = p[0].fitting(p[0].doubted);
        List<Way> other = p[1].fitting(p[1].doubted);
        int[] may = where(p[0], one, world);
        int[] mayOther = where(p[1], other, world);
        for (int h = 0; h <= 96; h++) {
            boolean behind = h > p[0].end || h > p[1].end;
            due(name + " met " + h, x.met(h, false), behind ? -1 : may[h] & mayOther[h] & 255);
            int sure = behind ? -1 : surely(one, h);
            int want = sure >= 0 && sure == surely(other, h) ? 1 << sure : 0;
            due(name + " met surely " + h, x.met(h, true), behind ? -1 : want);
        }
    }

    private static void askBarred(String name, Random r, World world, Person[] p, StampTales x) {
        Person told = p[r.nextInt(2)];
        Way w = told.ways.get(r.nextInt(told.ways.size()));
        x.forget();
        List<int[]> legs = new ArrayList<>();
        for (int h = 0; h < 96; h++) {
            if (w.taken[h] >= 0 && legs.size() < 20 && r.nextInt(15) != 0) {
                legs.add(new int[] {w.taken[h], r.nextInt(15) == 0 ? Math.min(96, h + 24) : h});
                if (r.nextInt(15) == 0 && legs.size() < 20) {
                    legs.add(new int[] {r.nextInt(world.links.size()), r.nextInt(97)});
                }
            }
        }
        for (int i = 0; i < legs.size(); i++) {
            due(name + " leg", x.leg(legs.get(i)[0], legs.get(i)[1]), i + 1);
        }
        for (int man = 0; man < 2; man++) {
            due(name + " barred " + man, x.barred(man), barred(world, p[man], legs));
        }
    }

    private static int barred(World world, Person p, List<int[]> legs) {
        int[] moves = new int[97];
        java.util.Arrays.fill(moves, -1);
        int t = p.home;
        int free = 0;
        for (int i = 0; i < legs.size(); i++) {
            Link link = world.links.get(legs.get(i)[0]);
            int h = legs.get(i)[1];
            if (h < free || link.from != t || !link.leaves(h) || h + link.lasts > p.end) {
                return 100 + i;
            }
            moves[h] = legs.get(i)[0];
            t = link.to;
            free = h + link.lasts;
        }
        Way w = new Way(world, moves, p.home, p.end);
        if (p.sleepBar(w) >= 0) {
            return 200 + p.sleepBar(w);
        }
        List<Trace> row = new ArrayList<>();
        for (int i = 0; i < p.traces.size(); i++) {
            if (p.traces.get(i).kind == 0 && (p.doubted >> i & 1) == 0) {
                row.add(p.traces.get(i));
            }
        }
        int bar = Person.stampBar(w, row);
        if (bar >= 0) {
            return 300 + bar;
        }
        for (int kind = 1; kind <= 2; kind++) {
            for (int i = 0; i < p.traces.size(); i++) {
                Trace trace = p.traces.get(i);
                if (trace.kind == kind && (p.doubted >> i & 1) == 0 && !p.isThere(w, trace)) {
                    return (3 + kind) * 100 + i;
                }
            }
        }
        return 0;
    }

    private static boolean tryOne(int seed, StampTales x) {
        Random r = new Random(seed);
        World world = draw(r);
        Person[] p = {new Person(), new Person()};
        for (Person one : p) {
            one.home = r.nextInt(world.towns.size());
            one.sleep = r.nextInt(3) == 0 ? 0 : r.nextInt(5);
            one.end = r.nextInt(3) == 0 ? 1 + r.nextInt(96) : r.nextInt(2) == 0 ? 96 : 24 * r.nextInt(4) + 6 + r.nextInt(4);
            if (!go(world, one, new int[97], one.home, 0)) {
                return false;
            }
        }
        String name = "seed " + seed;
        String text = world.text();
        if (text.length() > 500) {
            return false;
        }
        feed(x, text);
        due(name + " map", x.map(), world.towns.size());
        for (int man = 0; man < 2; man++) {
            due(name + " man", x.man(man, p[man].home, p[man].sleep, p[man].end) ? 1 : 0, 1);
            leaveTraces(r, world, p[man], x, man);
            ask(name + " man " + man, world, p[man], x, man);
        }
        askMet(name, world, p, x);
        askBarred(name, r, world, p, x);
        askBarred(name, r, world, p, x);
        // A change has to be seen by every answer that was given already.
        for (int man = 0; man < 2; man++) {
            if (!p[man].traces.isEmpty()) {
                p[man].traces.remove(p[man].traces.size() - 1);
                p[man].doubted &= (1 << p[man].traces.size()) - 1;
                due(name + " undo", x.undo(man), p[man].traces.size());
                ask(name + " man " + man + " again", world, p[man], x, man);
            }
        }
        return true;
    }

    public static void main(String[] args) {
        int seeds = args.length > 0 ? Integer.parseInt(args[0]) : 1500;
        int tried = 0;
        StampTales x = new StampTales();
        for (int seed = 0; seed < seeds; seed++) {
            if (tryOne(seed, x)) {
                tried++;
            }
        }
        due("whether most maps were tried", tried >= seeds / 2, true);
        report("WaysTest", tried + " maps, ");
    }
}
