/**
 * The edges that the document names for HOURS, WAYS, SLEEP, CROSSINGS and what FITS (part 2 of Terms, and promise 15),
 * sentence by sentence.
 */
public final class WayEdgesTest extends Checks {
    private static final String INLAND = "land a both;town x of a;town y of a;";
    private static final String[] HOW = {"none", "in", "out", "both"};
    /** The stamps of three crossings, as land, whether OUT, and the two days. */
    private static final int[][] ROW = {{0, 1, 0, 0}, {1, 0, 0, 0}, {1, 1, 0, 0}, {0, 0, 0, 0}, {0, 1, 1, 1}, {1, 0,
        1, 1}};

    private static StampTales sail(int hour, int lasts) {
        return mapped(INLAND + "sail x y at " + hour + " for " + lasts + " cost 1;");
    }

    private static void hours() {
        sentence("Terms 2", "HOURS are 0 .. 96, by one clock for all; hour h is in DAY h by 24 (cut).");
        for (int hour = -3; hour <= 99; hour++) {
            boolean is = hour >= 0 && hour <= 96;
            due("paper at " + hour, sail(10, 5).paper(0, 0, hour), is ? 0 : -1);
            due("look from " + hour, sail(10, 5).look(1, 0, hour, 96), is ? 0 : -1);
            due("look till " + hour, sail(10, 5).look(1, 0, 0, hour), is ? 0 : -1);
            StampTales x = sail(10, 5);
            due("may at " + hour, x.may(1, hour) >= 0, is);
            due("met at " + hour, x.met(hour, false) >= 0, is);
            due("leg at " + hour, x.leg(0, hour), is ? 1 : -1);
        }
        StampTales x = mapped("land a none;town x of a plus 12;town y of a minus 12;sail x y at 10 for 5 cost 1;");
        due("a town's clock moves no link: ahead", x.may(0, 10), 1);
        due("a town's clock moves no link: under way", x.may(0, 11), 257);
        due("a town's clock moves no link: behind", x.may(0, 15), 3);
        x.paper(0, 1, 14);
        due("nor a paper", x.ways(0), 0);
        x.undo(0);
        x.paper(0, 1, 15);
        due("nor a paper", x.ways(0), 1);
        for (int hour = 0; hour <= 95; hour++) {
            daysOf("sail at " + hour, crossing("out", "none", "", "", hour, 1), 0, true, hour / 24);
            daysOf("sail to " + (hour + 1), crossing("none", "in", "", "", hour, 1), 1, false, (hour + 1) / 24);
        }
    }

    private static void beginAndEnd() {
        sentence("Terms 2", "A WAY of a man begins in his HOME at hour 0, and ends in any TOWN at his END.");
        String text = "land a none;town x of a;town y of a;town z of a;sail x y at 0 for 1 cost 0;"
            + "sail y z at 1 for 1 cost 0;";
        int[][] ways = {{2, 3, 3}, {1, 2, 2}, {1, 1, 1}};
        int[][] last = {{3, 7, 7}, {2, 6, 6}, {4, 4, 4}};
        for (int man = 0; man < 2; man++) {
            StampTales x = mapped(text);
            for (int i = 0; i < 9; i++) {
                int home = i / 3;
                int end = new int[] {1, 2, 96}[i % 3];
                x.man(man, home, 0, end);
                due("home " + home, x.may(man, 0), 1 << home);
                due("surely home " + home, x.surely(man, 0), home);
                due("ways from " + home + " till " + end, x.ways(man), ways[home][i % 3]);
                due("towns from " + home + " at " + end, x.may(man, end), last[home][i % 3]);
            }
        }
    }

    private static void steps() {
        sentence("Terms 2", "In a TOWN at hour h he STAYS (and is there at h + 1), or takes a LINK that leaves it at "
            + "h (and is at its other TOWN at h + D, not behind the END).");
        for (int hour = 0; hour <= 95; hour++) {
            for (int lasts = 1; lasts <= 48; lasts += lasts == 3 ? 44 : 1) {
                StampTales x = sail(hour, lasts);
                int comes = hour + lasts;
                for (int end : new int[] {1, comes - 1, comes, comes + 1, 96}) {
                    if (x.man(0, 0, 0, end)) {
                        oneSail(x, hour, comes, end);
                    }
                }
            }
        }
        StampTales x = mapped("land a none;town x of a;town y of a;town z of a;sail x y at 3 for 2 cost 0;"
            + "sail y z at 5 for 1 cost 0;sail y z at 4 for 1 cost 0;sail z x at 5 for 1 cost 0;");
        due("he goes on as he comes, not ahead of it, and from where he is", x.ways(0), 3);
        due("in z", x.may(0, 6), 7);
        x.man(1, 1, 0, 96);
        due("from y, twice at hand", x.ways(1), 4);
    }

    /** He stays, or takes the one sail, if that comes till the end. */
    private static void oneSail(StampTales x, int hour, int comes, int end) {
        String name = "sail at " + hour + " to " + comes + ", end " + end + ": ";
        boolean can = comes <= end;
        due(name + "ways", x.ways(0), can ? 2 : 1);
        for (int h : new int[] {0, hour, hour + 1, comes - 1, comes, end}) {
            if (h <= end) {
                int more = !can || h <= hour ? 0 : h < comes ? 256 : 2;
                due(name + "at " + h, x.may(0, h), 1 + more);
            }
        }
    }

    private static void eachDay() {
        sentence("Terms 1", "it leaves each day at hour H, 0 .. 23");
        for (int hour = 0; hour <= 23; hour++) {
            for (int lasts : new int[] {1, 2, 23, 24, 25, 48}) {
                StampTales x = mapped(INLAND + "run x y at " + hour + " for " + lasts + " cost 1;");
                for (int end : new int[] {1, 23, 24, 25, 47, 48, 49, 72, 95, 96}) {
                    x.man(0, 0, 0, end);
                    int want = 1;
                    for (int h = hour; h + lasts <= end; h += 24) {
                        want++;
                    }
                    due("run at " + hour + " for " + lasts + ", end " + end, x.ways(0), want);
                }
            }
        }
        sentence("Terms 1", "it leaves once, at hour H, 0 .. 95");
        for (int hour = 0; hour <= 95; hour++) {
            StampTales x = sail(hour, 1);
            x.paper(0, 0, hour + 1);
            due("not behind " + hour, x.ways(0), 1);
            x.undo(0);
            x.paper(0, 1, hour + 1);
            due("at " + hour, x.ways(0), 1);
            x.undo(0);
            x.paper(0, 1, hour);
            due("not ahead of " + hour, x.ways(0), 0);
        }
    }

    private static void sleep() {
        sentence("Terms 2", "SLEEP S (0 .. 4): of the eight hours from 24 * d on (24 * d .. 24 * d + 7) he STAYS at "
            + "least S, for each DAY d of which all eight are over at the END.");
        due("sleep -1", sail(1, 1).man(0, 0, -1, 96), false);
        due("sleep 5", sail(1, 1).man(0, 0, 5, 96), false);
        for (int hour = 0; hour <= 95; hour++) {
            for (int lasts = 1; lasts <= 48; lasts++) {
                StampTales x = sail(hour, lasts);
                x.leg(0, hour);
                for (int i = 0; i < 35; i++) {
                    int end = new int[] {7, 8, 31, 32, 56, 80, 96}[i / 5];
                    due("sleep " + i % 5, x.man(0, 0, i % 5, end), true);
                    oneNight(x, hour, hour + lasts, i % 5, end);
                }
            }
        }
        StampTales x = mapped(INLAND + "run x y at 1 for 1 cost 0;run y x at 3 for 1 cost 0;"
            + "run x y at 5 for 3 cost 0;");
        int[] ways = {5, 5, 5, 5, 4};
        for (int s = 0; s <= 4; s++) {
            x.man(0, 0, s, 8);
            due("three short ones in one night, sleep " + s, x.ways(0), ways[s]);
        }
        x.man(0, 0, 4, 7);
        due("a night that is not over, its last run not come", x.ways(0), 3);
    }

    private static void oneNight(StampTales x, int leaves, int comes, int sleep, int end) {
        int bar = comes > end ? 100 : 0;
        for (int day = 0; bar == 0 && 24 * day + 7 < end; day++) {
            int stays = 0;
            for (int h = 24 * day; h <= 24 * day + 7; h++) {
                stays += h < leaves || h >= comes ? 1 : 0;
            }
            bar = stays < sleep ? 200 + day : 0;
        }
        String name = "sail at " + leaves + " to " + comes + ", sleep " + sleep + ", end " + end;
        due(name, x.ways(0), bar == 0 ? 2 : 1);
        due(name + ", told", x.barred(0), bar);
    }

    private static StampTales crossing(String one, String other, String clock, String otherClock, int hour, int lasts) {
        return mapped("land a " + one + ";land b " + other + ";town x of a " + clock + ";town y of b " + otherClock
            + ";sail x y at " + hour + " for " + lasts + " cost 0;");
    }

    /** Of all days, the one sail that can be taken leaves its one stamp at that day alone. */
    private static void daysOf(String name, StampTales x, int land, boolean out, int want) {
        for (int day = -1; day <= 5; day++) {
            x.stamp(0, land, out, day, day);
            due(name + ", day " + day, x.ways(0), day == want ? 1 : 0);
            x.undo(0);
        }
    }

    private static void crossings() {
        sentence("Terms 2", "CROSSING: a LINK between TOWNS of unlike LANDS: as it leaves, the one LAND stamps, if "
            + "it does so out (or both): OUT,");
        sentence("Terms 2", "as it comes, the other LAND, if it does so in (or both): IN,");
        int[][] rows = {{}, {0}, {1}, {0, 1}, {1, 0}, {2}, {3}, {0, 0}, {1, 1}, {0, 1, 0}};
        for (int i = 0; i < 16; i++) {
            boolean out = i / 4 >= 2;
            boolean in = i % 2 == 1;
            int fits = out ? in ? 3 : 1 : in ? 2 : 0;
            for (int row = 0; row < rows.length; row++) {
                StampTales x = crossing(HOW[i / 4], HOW[i % 4], "", "", 10, 5);
                for (int s : rows[row]) {
                    x.stamp(0, s % 2, s == 0 || s == 3, 0, 0);
                }
                int want = (row == fits ? 1 : 0) + (row == 0 ? 1 : 0);
                due(HOW[i / 4] + " to " + HOW[i % 4] + ", row " + row, x.ways(0), want);
            }
        }
        StampTales x = sail(10, 5);
        due("between towns of one land", x.ways(0), 2);
        x.stamp(0, 0, true, -1, 5);
        due("no stamp there", x.ways(0), 0);
    }

    private static void days() {
        sentence("Terms 2", "with the DAY by the CLOCK of the TOWN it leaves (hour and Z, by 24, downwards)");
        for (int z = -12; z <= 12; z++) {
            String clock = (z < 0 ? "minus " : "plus ") + Math.abs(z);
            for (int hour = 0; hour <= 95; hour++) {
                StampTales x = crossing("out", "none", clock, "plus 12", hour, 1);
                daysOf("leaves at " + hour + " by " + z, x, 0, true, Math.floorDiv(hour + z, 24));
            }
        }
        sentence("Terms 2", "with the DAY by the CLOCK of that TOWN.");
        for (int z = -12; z <= 12; z++) {
            String clock = (z < 0 ? "minus " : "plus ") + Math.abs(z);
            for (int comes = 1; comes <= 96; comes++) {
                StampTales x = crossing("none", "in", "minus 12", clock, Math.max(0, comes - 5), Math.min(comes, 5));
                daysOf("comes at " + comes + " by " + z, x, 1, false, Math.floorDiv(comes + z, 24));
            }
        }
        StampTales x = crossing("both", "both", "plus 12", "minus 12", 12, 1);
        x.stamp(0, 0, true, 1, 1);
        x.stamp(0, 1, false, 0, 0);
        due("OUT a day behind IN", x.ways(0), 1);
        due("the first day of all", minusOne().ways(0), 1);
    }

    private static StampTales minusOne() {
        StampTales x = crossing("out", "in", "minus 12", "minus 12", 0, 11);
        x.stamp(0, 0, true, -1, -1);
        x.stamp(0, 1, false, -1, -1);
        return x;
    }

    private static StampTales thereAndBack() {
        StampTales x = mapped("land a both;land b both;town x of a;town y of b;run x y at 9 for 5 cost 7;"
            + "run y x at 20 for 3 cost 3;");
        x.man(0, 0, 0, 48);
        return x;
    }

    private static int waysOf(int[]... row) {
        StampTales x = thereAndBack();
        for (int[] s : row) {
            x.stamp(0, s[0], s[1] == 1, s[2], s[3]);
        }
        return x.ways(0);
    }

    private static int[][] rowWith(int place, int... stamp) {
        int[][] row = ROW.clone();
        row[place] = stamp;
        return row;
    }

    private static void fittingStamps() {
        sentence("Terms 2", "A WAY FITS, if its stamps are just the STAMPS, one by one in the order in which they "
            + "were told,");
        int[] first = {1, 0, 1, 0, 1, 0, 1};
        for (int n = 0; n <= 6; n++) {
            due("the first " + n + " stamps", waysOf(java.util.Arrays.copyOf(ROW, n)), first[n]);
        }
        for (int i = 0; i < 6; i++) {
            int[] s = ROW[i];
            due("the other land at " + i, waysOf(rowWith(i, 1 - s[0], s[1], s[2], s[3])), 0);
            due("IN for OUT, or OUT for IN, at " + i, waysOf(rowWith(i, s[0], 1 - s[1], s[2], s[3])), 0);
            int[][] swapped = rowWith(i, ROW[(i + 1) % 6]);
            swapped[(i + 1) % 6] = s;
            due(i + " and the next in the other order", waysOf(swapped), 0);
            int[][] without = java.util.Arrays.copyOf(ROW, 5);
            System.arraycopy(ROW, i + 1, without, i, 5 - i);
            due("without " + i, waysOf(without), 0);
        }
        sentence("Terms 2", "the DAY of each between its two (or one of these)");
        for (int i = 0; i < 6; i++) {
            int day = ROW[i][2];
            for (int from = -1; from <= 5; from++) {
                for (int to = from; to <= 5; to++) {
                    int want = from <= day && day <= to ? 1 : 0;
                    due(i + " from " + from + " to " + to, waysOf(rowWith(i, ROW[i][0], ROW[i][1], from, to)), want);
                }
            }
        }
        due("two days at which the run leaves", waysOf(new int[] {0, 1, 0, 1}, new int[] {1, 0, 0, 1}), 2);
    }

    private static void fittingPapers() {
        sentence("Terms 2", "he is in the TOWN at the hour of each PAPER that isn't behind the END;");
        for (int hour = 0; hour <= 96; hour++) {
            StampTales x = sail(10, 5);
            x.man(0, 0, 0, 20);
            x.paper(0, 0, hour);
            due("in x at " + hour, x.ways(0), hour <= 10 || hour > 20 ? 2 : 1);
            x.undo(0);
            x.paper(0, 1, hour);
            due("in y at " + hour, x.ways(0), hour > 20 ? 2 : hour >= 15 ? 1 : 0);
            x.man(0, 0, 0, hour == 0 ? 1 : hour);
            due("at the end", x.ways(0), hour >= 15 ? 1 : 0);
        }
        StampTales x = sail(10, 5);
        x.paper(0, 0, 10);
        x.paper(0, 1, 15);
        due("each of two", x.ways(0), 1);
        x.paper(0, 0, 12);
        due("each of three", x.ways(0), 0);
    }

    private static void fittingLooks() {
        sentence("Terms 2", "and in that of each LOOK at some hour between its two (or one of these; till the END).");
        StampTales x = sail(10, 5);
        x.man(0, 0, 0, 20);
        for (int from = 0; from <= 25; from++) {
            for (int to = from; to <= 96; to += to == 26 ? 70 : 1) {
                String name = "from " + from + " to " + to;
                x.look(0, 0, from, to);
                due("in x " + name, x.ways(0), from <= 10 ? 2 : from <= 20 ? 1 : 0);
                x.undo(0);
                x.look(0, 1, from, to);
                due("in y " + name, x.ways(0), from <= 20 && to >= 15 ? 1 : 0);
                x.undo(0);
            }
        }
        x.look(0, 0, 8, 12);
        x.look(0, 0, 5, 8);
        due("one hour for both", x.ways(0), 2);
        x.undo(0);
        x.undo(0);
        x.look(0, 1, 15, 15);
        x.look(0, 1, 15, 15);
        due("one hour alone for both", x.ways(0), 1);
        x.undo(0);
        x.undo(0);
        x.look(0, 0, 8, 12);
        x.look(0, 0, 5, 8);
        x.undo(0);
        x.look(0, 1, 15, 30);
        due("both of them", x.ways(0), 1);
        x.undo(0);
        x.look(0, 1, 11, 14);
        due("the first alone", x.ways(0), 0);
    }

    private static void doubted() {
        sentence("Terms 2", "A DOUBTED TRACE counts for nothing.");
        StampTales x = sail(10, 5);
        x.paper(0, 1, 3);
        x.look(0, 1, 3, 4);
        x.stamp(0, 0, true, 0, 0);
        for (int bits = 0; bits < 8; bits++) {
            for (int i = 0; i < 3; i++) {
                x.doubt(0, i, (bits >> i & 1) != 0);
            }
            due("doubted " + bits, x.ways(0), bits == 7 ? 2 : 0);
            due("doubted " + bits + ", told", x.barred(0), (bits & 4) == 0 ? 300 : (bits & 1) == 0 ? 400 : bits == 7
                ? 0 : 501);
        }
        StampTales y = thereAndBack();
        y.stamp(0, 0, true, 0, 0);
        y.stamp(0, 0, false, 0, 0);
        y.stamp(0, 1, false, 0, 0);
        due("a strange stamp between", y.ways(0), 0);
        y.doubt(0, 1, true);
        due("it is doubted", y.ways(0), 1);
        y.doubt(0, 1, false);
        due("no more", y.ways(0), 0);
    }

    private static void counted() {
        sentence("promise 15", "How many WAYS FIT; NONE if there is no such man, or no MAP.");
        StampTales x = sail(10, 5);
        due("ways of 0", x.ways(0), 2);
        x.paper(1, 1, 20);
        due("ways of 1", x.ways(1), 1);
        x.paper(1, 0, 20);
        due("none fits", x.ways(1), 0);
        for (int man : new int[] {-2, -1, 2, 3, 256, Integer.MIN_VALUE, Integer.MAX_VALUE}) {
            due("ways of " + man, x.ways(man), -1);
            due("no map, ways of " + man, new StampTales().ways(man), -1);
        }
        due("no map", new StampTales().ways(0), -1);
        due("no map", new StampTales().ways(1), -1);
    }

    public static void main(String[] args) {
        hours();
        beginAndEnd();
        steps();
        eachDay();
        sleep();
        crossings();
        days();
        fittingStamps();
        fittingPapers();
        fittingLooks();
        doubted();
        counted();
        report("WayEdgesTest", "");
    }
}
