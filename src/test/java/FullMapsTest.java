import java.math.BigInteger;
import java.util.ArrayList;
import java.util.Arrays;
import java.util.HashMap;
import java.util.List;
import java.util.Map;
import java.util.Random;

/**
 * Promises 6 to 11 and 15 to 22 on maps as full as the document allows (8 towns, 16 links, 8 traces), where nobody can
 * go every single way: against an oracle that goes hour by hour and keeps, for each state, sums without a bound.
 * Changes and questions about both men come in a drawn order, on one object, 512 calls at most. The seeds are fixed.
 */
public final class FullMapsTest extends Checks {
    private static final int MOST_CALLS = 512;
    private static final BigInteger MOST_TOLD = BigInteger.valueOf(1000000000);

    private record Link(int from, int to, boolean daily, int hour, int lasts, int price) {
        boolean leaves(int h) {
            return daily ? h % 24 == hour : h == hour;
        }
    }

    private record Trace(int kind, int place, int from, int to, boolean out) { }

    /** A man at an hour in a town: hours stayed since midnight, how many stamps he has, and which looks saw him. */
    private record State(int hour, int town, int stayed, int stamps, int seen) { }

    /** Where a stay (link -1) or a link leads. */
    private record Step(int link, State to) { }

    /** All fitting ways onward from a state: how many, and the least and most of cost and links. */
    private record Sum(BigInteger ways, int cheapest, int dearest, int fewest, int most) { }

    private static final class World {
        final int[] how = new int[4];
        final int[] land = new int[8];
        final int[] clock = new int[8];
        final List<Link> links = new ArrayList<>();
        int lands;
        int towns;

        World(Random r) {
            lands = 1 + r.nextInt(4);
            for (int i = 0; i < lands; i++) {
                how[i] = r.nextInt(4);
            }
            // With all links between two or three towns, there are more ways than are told.
            boolean dense = r.nextInt(4) == 0;
            towns = dense ? 2 + r.nextInt(2) : r.nextInt(2) == 0 ? 2 + r.nextInt(6) : 8;
            for (int i = 0; i < towns; i++) {
                land[i] = r.nextInt(lands);
                clock[i] = r.nextInt(3) == 0 ? 0 : r.nextInt(25) - 12;
            }
            int many = !dense && r.nextInt(4) == 0 ? 1 + r.nextInt(15) : 16;
            int longest = dense ? 1 : r.nextInt(3) == 0 ? 48 : 1 + r.nextInt(8);
            for (int i = 0; i < many; i++) {
                int a = r.nextInt(towns);
                int b = (a + 1 + r.nextInt(towns - 1)) % towns;
                boolean daily = r.nextInt(5) != 0;
                links.add(new Link(a, b, daily, r.nextInt(daily ? 24 : 96), 1 + r.nextInt(longest), r.nextInt(100)));
            }
        }

        String text() {
            String[] words = {"none", "in", "out", "both"};
            StringBuilder out = new StringBuilder();
            for (int i = 0; i < lands; i++) {
                out.append("land ").append((char) ('w' + i)).append(' ').append(words[how[i]]).append(';');
            }
            for (int i = 0; i < towns; i++) {
                out.append("town ").append((char) ('a' + i)).append(" of ").append((char) ('w' + land[i]));
                if (clock[i] != 0) {
                    out.append(clock[i] < 0 ? " minus" : " plus").append(Math.abs(clock[i]));
                }
                out.append(";");
            }
            for (Link k : links) {
                out.append(k.daily ? "run " : "sail ").append((char) ('a' + k.from)).append(' ');
                out.append((char) ('a' + k.to)).append(" at").append(k.hour);
                out.append("for").append(k.lasts).append("cost").append(k.price).append(';');
            }
            return out.toString();
        }
    }

    private static final class Person {
        final World world;
        final List<Trace> traces = new ArrayList<>();
        int home;
        int sleep;
        int end = 96;
        int doubted;

        // A way that he really went: its stamps, and where he was at each hour.
        final List<Trace> left = new ArrayList<>();
        final int[] where = new int[97];

        Person(World world) {
            this.world = world;
        }

        int stampsTold() {
            int many = 0;
            for (int i = 0; i < traces.size(); i++) {
                many += traces.get(i).kind == 0 && (doubted >> i & 1) == 0 ? 1 : 0;
            }
            return many;
        }

        void goSomewhere(Random r) {
            left.clear();
            Arrays.fill(where, -1);
            int town = home;
            where[0] = home;
            int[] stayed = new int[5];
            for (int h = 0; h < end; h++) {
                Link k = world.links.get(r.nextInt(world.links.size()));
                for (int i = 0; i < 4 && (k.from != town || !k.leaves(h)); i++) {
                    k = world.links.get(r.nextInt(world.links.size()));
                }
                boolean takes = k.from == town && k.leaves(h) && h + k.lasts <= end && left.size() < 5;
                if (takes && (h % 24 > 7 || stayed[h / 24] >= sleep || r.nextInt(4) == 0)) {
                    leaveStamps(k, h);
                    town = k.to;
                    h += k.lasts - 1;
                } else {
                    stayed[h / 24] += h % 24 < 8 ? 1 : 0;
                }
                where[h + 1] = town;
            }
        }

        private void leaveStamps(Link k, int h) {
            int here = world.land[k.from];
            int there = world.land[k.to];
            if (here != there && (world.how[here] & 2) != 0) {
                int day = Math.floorDiv(h + world.clock[k.from], 24);
                left.add(new Trace(0, here, day, day, true));
            }
            if (here != there && (world.how[there] & 1) != 0) {
                int day = Math.floorDiv(h + k.lasts + world.clock[k.to], 24);
                left.add(new Trace(0, there, day, day, false));
            }
        }
    }

    /** The ways of a man that fit all his traces but those in a set. */
    private static final class Oracle {
        final World world;
        final Person p;
        final List<Trace> stamps = new ArrayList<>();
        final List<Trace> papers = new ArrayList<>();
        final List<Trace> looks = new ArrayList<>();
        final Map<State, Sum> sums = new HashMap<>();
        final State start;

        Oracle(Person p, int off) {
            this.world = p.world;
            this.p = p;
            for (int i = 0; i < p.traces.size(); i++) {
                Trace t = p.traces.get(i);
                if ((off >> i & 1) == 0) {
                    (t.kind == 0 ? stamps : t.kind == 1 ? papers : looks).add(t);
                }
            }
            start = arrive(new State(0, p.home, 0, 0, 0));
        }

        /** The state with what is seen of him there and then; null, if a paper tells that he was elsewhere. */
        private State arrive(State s) {
            int seen = s.seen;
            for (int i = 0; i < looks.size(); i++) {
                Trace t = looks.get(i);
                seen |= t.place == s.town && t.from <= s.hour && s.hour <= t.to ? 1 << i : 0;
            }
            for (Trace t : papers) {
                if (t.from == s.hour && t.place != s.town) {
                    return null;
                }
            }
            return new State(s.hour, s.town, s.stayed, s.stamps, seen);
        }

        /** Hours stayed since midnight, one hour later; -1, if a night is over in which these were too few. */
        private int anHourLater(int hour, int stayed, boolean stays) {
            int now = stays && hour % 24 < 8 ? stayed + 1 : stayed;
            if (hour % 24 == 7 && now < p.sleep) {
                return -1;
            }
            return hour % 24 >= 7 ? 0 : now;
        }

        private State stay(State s) {
            int stayed = anHourLater(s.hour, s.stayed, true);
            return stayed < 0 ? null : arrive(new State(s.hour + 1, s.town, stayed, s.stamps, s.seen));
        }

        private boolean isNextStamp(int number, int land, boolean out, int hour) {
            if (number >= stamps.size()) {
                return false;
            }
            Trace t = stamps.get(number);
            int day = Math.floorDiv(hour, 24);
            return t.place == land && t.out == out && t.from <= day && day <= t.to;
        }

        private State take(State s, Link k) {
            int comes = s.hour + k.lasts;
            if (k.from != s.town || !k.leaves(s.hour) || comes > p.end) {
                return null;
            }
            int stayed = s.stayed;
            for (int h = s.hour; h < comes && stayed >= 0; h++) {
                stayed = anHourLater(h, stayed, false);
            }
            for (Trace t : papers) {
                stayed = t.from > s.hour && t.from < comes ? -1 : stayed;
            }
            if (stayed < 0) {
                return null;
            }
            int number = s.stamps;
            int here = world.land[k.from];
            int there = world.land[k.to];
            if (here != there && (world.how[here] & 2) != 0) {
                if (!isNextStamp(number, here, true, s.hour + world.clock[k.from])) {
                    return null;
                }
                number++;
            }
            if (here != there && (world.how[there] & 1) != 0) {
                if (!isNextStamp(number, there, false, comes + world.clock[k.to])) {
                    return null;
                }
                number++;
            }
            return arrive(new State(comes, k.to, stayed, number, s.seen));
        }

        /** All that he can do next, in the order of the TALE. */
        private List<Step> steps(State s) {
            List<Step> out = new ArrayList<>();
            State to = stay(s);
            if (to != null) {
                out.add(new Step(-1, to));
            }
            for (int k = 0; k < world.links.size(); k++) {
                to = take(s, world.links.get(k));
                if (to != null) {
                    out.add(new Step(k, to));
                }
            }
            return out;
        }

        /** Null if no way onward fits. */
        Sum sumOf(State s) {
            if (s == null || sums.containsKey(s)) {
                return sums.get(s);
            }
            Sum sum = null;
            if (s.hour == p.end) {
                boolean fits = s.stamps == stamps.size() && s.seen == (1 << looks.size()) - 1;
                sum = fits ? new Sum(BigInteger.ONE, 0, 0, 0, 0) : null;
            } else {
                for (Step step : steps(s)) {
                    sum = together(sum, sumOf(step.to), step.link);
                }
            }
            sums.put(s, sum);
            return sum;
        }

        private Sum together(Sum one, Sum next, int link) {
            if (next == null) {
                return one;
            }
            int cost = link < 0 ? 0 : world.links.get(link).price;
            int leg = link < 0 ? 0 : 1;
            Sum x = new Sum(next.ways, next.cheapest + cost, next.dearest + cost, next.fewest + leg, next.most + leg);
            return one == null ? x : new Sum(one.ways.add(x.ways), Math.min(one.cheapest, x.cheapest),
                Math.max(one.dearest, x.dearest), Math.min(one.fewest, x.fewest), Math.max(one.most, x.most));
        }

        int ways() {
            Sum sum = sumOf(start);
            return sum == null ? 0 : sum.ways.min(MOST_TOLD).intValue();
        }

        int[] extremes() {
            Sum s = sumOf(start);
            return s == null ? new int[] {-1, -1, -1, -1} : new int[] {s.cheapest, s.dearest, s.fewest, s.most};
        }

        List<Integer> tale() {
            List<Integer> out = new ArrayList<>();
            State s = start;
            int cost = sumOf(start).cheapest;
            while (s.hour < p.end) {
                for (Step step : steps(s)) {
                    int rest = cost - (step.link < 0 ? 0 : world.links.get(step.link).price);
                    Sum next = sumOf(step.to);
                    if (next != null && next.cheapest == rest) {
                        if (step.link >= 0) {
                            out.add(step.link * 100 + s.hour);
                        }
                        cost = rest;
                        s = step.to;
                        break;
                    }
                }
            }
            return out;
        }

        int[] where() {
            int[] may = new int[97];
            List<Map<State, Boolean>> here = new ArrayList<>();
            for (int h = 0; h <= 96; h++) {
                here.add(new HashMap<>());
            }
            if (sumOf(start) != null) {
                here.get(0).put(start, true);
            }
            for (int h = 0; h <= p.end; h++) {
                for (State s : here.get(h).keySet()) {
                    may[h] |= 1 << s.town;
                    for (Step step : h < p.end ? steps(s) : new ArrayList<Step>()) {
                        if (sumOf(step.to) != null) {
                            here.get(step.to.hour).put(step.to, true);
                            for (int x = h + 1; x < step.to.hour; x++) {
                                may[x] |= 256;
                            }
                        }
                    }
                }
            }
            return may;
        }
    }

    private static final class Session {
        final Random r;
        final StampTales x = new StampTales();
        final String name;
        World world;
        Person[] p;
        int calls;

        Session(int seed) {
            r = new Random(seed);
            name = "seed " + seed;
        }

        void run() {
            newMap();
            for (int round = 0; round < 60 && calls < MOST_CALLS - 40; round++) {
                change();
                ask(r.nextInt(2));
            }
        }

        private void is(String call, long got, long want) {
            calls++;
            due(name + ", call " + calls + ", " + call, got, want);
        }

        private void newMap() {
            String text = "";
            do {
                world = new World(r);
                text = world.text();
            } while (text.length() > 500);
            feed(x, text);
            calls += text.length() / 20 + 3;
            is("map of " + text, x.map(), world.towns);
            p = new Person[] {new Person(world), new Person(world)};
            for (int man = 0; man < 2; man++) {
                settle(man);
            }
        }

        private void settle(int man) {
            Person who = p[man];
            who.home = r.nextInt(world.towns);
            who.sleep = r.nextInt(5);
            int[] ends = {1 + r.nextInt(96), 96, 96, 24 * r.nextInt(4) + 6 + r.nextInt(4)};
            who.end = ends[r.nextInt(4)];
            who.goSomewhere(r);
            is("man", x.man(man, who.home, who.sleep, who.end) ? 1 : 0, 1);
        }

        private void change() {
            int man = r.nextInt(2);
            Person who = p[man];
            int what = r.nextInt(14);
            int trace = r.nextInt(8);
            if (what == 0 && r.nextInt(4) != 0) {
                newMap();
            } else if (what == 0) {
                settle(man);
            } else if (what == 1) {
                boolean some = !who.traces.isEmpty();
                if (some) {
                    who.traces.remove(who.traces.size() - 1);
                    who.doubted &= (1 << who.traces.size()) - 1;
                }
                is("undo", x.undo(man), some ? who.traces.size() : -1);
            } else if (what <= 2) {
                boolean can = trace < who.traces.size();
                boolean was = (who.doubted >> trace & 1) != 0;
                if (can) {
                    who.doubted ^= 1 << trace;
                }
                is("doubt", x.doubt(man, trace, !was) ? 1 : 0, can ? 1 : 0);
            } else {
                leaveTrace(man, who, what);
                for (int i = who.stampsTold(); i < who.left.size() && what <= 9; i++) {
                    leaveTrace(man, who, what);
                }
            }
        }

        /** Most traces are such as a way of his has left, so that often some ways fit. */
        private void leaveTrace(int man, Person who, int what) {
            boolean isTrue = r.nextInt(16) != 0;
            int like = who.stampsTold();
            Trace t;
            if (what <= 9 && isTrue && like < who.left.size()) {
                Trace left = who.left.get(like);
                int from = Math.max(-1, left.from - r.nextInt(3));
                t = new Trace(0, left.place, from, Math.min(5, left.to + r.nextInt(3)), left.out);
            } else if (what <= 9 && (!isTrue || r.nextInt(4) == 0)) {
                int from = r.nextInt(7) - 1;
                t = new Trace(0, r.nextInt(world.lands), from, from + r.nextInt(6 - from), r.nextBoolean());
            } else {
                int from = r.nextInt(97);
                int to = what % 2 == 0 ? from : from + r.nextInt(97 - from);
                int town = isTrue && who.where[from] >= 0 ? who.where[from] : r.nextInt(world.towns);
                t = new Trace(what % 2 == 0 ? 1 : 2, town, from, to, false);
            }
            boolean hasRoom = hasRoom(who, t);
            int want = hasRoom ? who.traces.size() : -1;
            if (hasRoom) {
                who.traces.add(t);
            }
            if (t.kind == 0) {
                is("stamp", x.stamp(man, t.place, t.out, t.from, t.to), want);
            } else if (t.kind == 1) {
                is("paper", x.paper(man, t.place, t.from), want);
            } else {
                is("look", x.look(man, t.place, t.from, t.to), want);
            }
        }

        private static boolean hasRoom(Person who, Trace t) {
            int like = 0;
            for (Trace other : who.traces) {
                like += other.kind == t.kind ? 1 : 0;
            }
            boolean isFull = t.kind == 0 && like == 6 || t.kind == 2 && like == 2;
            return who.traces.size() < 8 && !isFull;
        }

        private void ask(int man) {
            Person who = p[man];
            Oracle oracle = new Oracle(who, who.doubted);
            for (int i = 0; i < 3; i++) {
                int what = r.nextInt(8);
                if (what == 0) {
                    is("ways", x.ways(man), oracle.ways());
                } else if (what == 1) {
                    askWhere(man, who, oracle);
                } else if (what == 2) {
                    int which = r.nextInt(4);
                    is("extreme " + which, x.extreme(man, which), oracle.extremes()[which]);
                } else if (what == 3) {
                    askTale(man, oracle);
                } else if (what <= 5) {
                    is("toDoubt", x.toDoubt(man), toDoubt(who));
                } else if (what == 6) {
                    is("away", x.away(man), away(who, oracle.ways()));
                } else {
                    askMet();
                }
            }
        }

        private void askWhere(int man, Person who, Oracle oracle) {
            int[] where = oracle.where();
            for (int i = 0; i < 2; i++) {
                int h = r.nextInt(who.end + 1);
                is("may " + h, x.may(man, h), where[h]);
                is("surely " + h, x.surely(man, h), oneTown(where[h]));
            }
        }

        private static int oneTown(int where) {
            return Integer.bitCount(where) == 1 && where < 256 ? Integer.numberOfTrailingZeros(where) : -1;
        }

        private void askTale(int man, Oracle oracle) {
            if (oracle.sumOf(oracle.start) == null) {
                is("tale", x.tale(man, -1), -1);
                return;
            }
            List<Integer> tale = oracle.tale();
            is("tale", x.tale(man, -1), tale.size());
            int k = r.nextInt(tale.size() + 1);
            is("tale " + k, x.tale(man, k), k < tale.size() ? tale.get(k) : -1);
        }

        private void askMet() {
            int h = r.nextInt(97);
            boolean surely = r.nextBoolean();
            int want = -1;
            if (h <= p[0].end && h <= p[1].end) {
                int one = new Oracle(p[0], p[0].doubted).where()[h];
                int other = new Oracle(p[1], p[1].doubted).where()[h];
                boolean same = oneTown(one) >= 0 && oneTown(one) == oneTown(other);
                want = surely ? same ? one : 0 : one & other & 255;
            }
            is("met " + h + " " + surely, x.met(h, surely), want);
        }

        private static int toDoubt(Person who) {
            for (int many = 0; many <= 8; many++) {
                for (int bits = 0; bits < 1 << who.traces.size(); bits++) {
                    if (Integer.bitCount(bits) == many && (bits & who.doubted) == 0
                            && new Oracle(who, who.doubted | bits).ways() > 0) {
                        return bits;
                    }
                }
            }
            return -1;
        }

        private static int away(Person who, int with) {
            int most = with;
            int best = -1;
            for (int i = 0; i < who.traces.size(); i++) {
                int without = (who.doubted >> i & 1) != 0 ? 0 : new Oracle(who, who.doubted | 1 << i).ways();
                if (without > most) {
                    most = without;
                    best = i;
                }
            }
            return best;
        }
    }

    public static void main(String[] args) {
        int seeds = args.length > 0 ? Integer.parseInt(args[0]) : 100;
        int calls = 0;
        for (int seed = 0; seed < seeds; seed++) {
            Session session = new Session(seed);
            session.run();
            calls += session.calls;
            due("calls of seed " + seed + " up to 512", session.calls <= MOST_CALLS, true);
        }
        report("FullMapsTest", seeds + " maps, " + calls + " calls, ");
    }
}
