/**
 * The edges that the document names for what is TOLD and what bars it (part 4 of Terms, and promises 23 to 25), and for
 * promise 26, sentence by sentence.
 */
public final class StoryEdgesTest extends Checks {
    private static final String INLAND = "land a none;town x of a;town y of a;";
    private static final String THERE_AND_BACK = "run x y at 9 for 5 cost 7;run y x at 20 for 3 cost 3;";
    private static final String BORDER = "land a both;land b both;town x of a;town y of b;" + THERE_AND_BACK;
    private static final int[] NOBODY = {-2, -1, 2, 3, 256, Integer.MIN_VALUE, Integer.MAX_VALUE};
    private static final int[] FAR = {-257, -97, -2, -1, 97, 98, 256, Integer.MIN_VALUE, Integer.MAX_VALUE};

    private static void told() {
        sentence("Terms 4", "What is TOLD is a row of at most 20 LEGS: a LINK and the hour at which he took it (else "
            + "he STAYED).");
        StampTales x = mapped(INLAND + "run x y at 9 for 1 cost 0;run y x at 11 for 1 cost 0;");
        due("nothing is told: he stayed", x.barred(0), 0);
        x.paper(0, 0, 96);
        x.paper(0, 1, 11);
        due("nothing is told: he stayed", x.barred(0), 401);
        tell(x, 0, 9, 1, 11);
        due("he stayed in y from 10 to 11, and in x behind that", x.barred(0), 0);
        x.paper(0, 1, 10);
        x.paper(0, 0, 9);
        x.paper(0, 0, 12);
        x.paper(0, 0, 8);
        due("at each hour", x.barred(0), 0);
        StampTales y = mapped(INLAND + daily(5));
        y.man(0, 0, 0, 48);
        due("20 legs in a row", twenty(y), 20);
        due("all of them can be", y.barred(0), 0);
        y.paper(0, 0, 48);
        due("he is back at last", y.barred(0), 0);
    }

    /** Runs there and back, hour by hour. */
    private static String daily(int pairs) {
        StringBuilder text = new StringBuilder();
        for (int i = 0; i < pairs; i++) {
            text.append("run x y at").append(2 * i).append("for1cost1;run y x at").append(2 * i + 1)
                .append("for1cost1;");
        }
        return text.toString();
    }

    private static int twenty(StampTales x) {
        int legs = 0;
        for (int i = 0; i < 20; i++) {
            legs = x.leg(i % 10, i / 10 * 24 + i % 10);
        }
        return legs;
    }

    private static void legs() {
        sentence("promise 23", "A LEG is TOLD: how many there are; NONE if there is no such LINK, it can't be (0 .. "
            + "96), or 20 are.");
        StampTales x = mapped(INLAND + daily(8));
        for (int far : FAR) {
            due("link " + far, x.leg(far, 0), -1);
            due("hour " + far, x.leg(0, far), -1);
        }
        due("link 16", x.leg(16, 0), -1);
        due("none is told", x.count(5), 0);
        for (int i = 1; i <= 20; i++) {
            due("leg " + i, x.leg(i % 16, i * 96 / 20), i);
            due("legs", x.count(5), i);
        }
        due("a 21st", x.leg(0, 0), -1);
        due("legs", x.count(5), 20);
        due("a link that there isn't", mapped(INLAND).leg(0, 0), -1);
        due("the last of two links", mapped(BORDER).leg(1, 96), 1);
        due("the third of two links", mapped(BORDER).leg(2, 96), -1);
        due("without a map", new StampTales().leg(0, 0), -1);
        StampTales y = mapped(BORDER);
        due("a leg that can't be is told", y.leg(1, 3), 1);
        due("and bars", y.barred(0), 100);
        sentence("promise 24", "What is TOLD is gone: how many LEGS there were.");
        due("20 of them", x.forget(), 20);
        due("none", x.count(5), 0);
        due("none of them", x.forget(), 0);
        due("a first one", x.leg(0, 0), 1);
        due("one of them", x.forget(), 1);
        due("of the leg that bars", y.forget(), 1);
        due("nothing bars", y.barred(0), 0);
        due("without a map", new StampTales().forget(), 0);
    }

    private static void wrongLegs() {
        sentence("Terms 4", "1 a LEG that can't be (he is not in that TOWN at that hour, it doesn't leave then, it "
            + "comes behind his END; by the first such LEG);");
        StampTales x = mapped(INLAND + THERE_AND_BACK + "sail x y at 40 for 2 cost 0;run x y at 23 for 1 cost 0;");
        for (int hour = 0; hour <= 96; hour++) {
            tell(x, 0, hour);
            due("a run at " + hour, x.barred(0), hour % 24 == 9 && hour < 96 ? 0 : 100);
            tell(x, 2, hour);
            due("a sail at " + hour, x.barred(0), hour == 40 ? 0 : 100);
        }
        tell(x, 1, 20);
        due("from y, but he is in x", x.barred(0), 100);
        x.man(1, 1, 0, 96);
        due("the other is in y", x.barred(1), 0);
        tell(x, 0, 9, 3, 23);
        due("from x, but he is in y", x.barred(0), 101);
        tell(x, 0, 9, 1, 20, 3, 23, 0, 33);
        due("he comes as it leaves; but from x, and he is in y", x.barred(0), 103);
        tell(x, 0, 9, 1, 20, 3, 23, 1, 44);
        due("all can be", x.barred(0), 0);
        tell(x, 0, 9, 0, 9);
        due("the same again", x.barred(0), 101);
        tell(x, 0, 33, 1, 44, 0, 9);
        due("one told behind later ones", x.barred(0), 102);
        tell(x, 3, 23, 1, 20, 1, 20);
        due("the first of two that can't be", x.barred(0), 101);
        underWay();
        endOfLegs();
    }

    private static void underWay() {
        StampTales x = mapped(INLAND + "sail x y at 10 for 5 cost 0;run y x at 12 for 1 cost 0;"
            + "run x y at 12 for 1 cost 0;run y x at 15 for 1 cost 0;");
        tell(x, 0, 10, 1, 12);
        due("under way to y", x.barred(0), 101);
        tell(x, 0, 10, 2, 12);
        due("under way from x", x.barred(0), 101);
        tell(x, 0, 10, 3, 15);
        due("as he comes", x.barred(0), 0);
    }

    private static void endOfLegs() {
        StampTales x = mapped(INLAND + "run x y at 23 for 1 cost 0;run y x at 5 for 48 cost 0;");
        tell(x, 0, 23);
        for (int end = 22; end <= 26; end++) {
            x.man(0, 0, 0, end);
            due("end " + end, x.barred(0), end < 24 ? 100 : 0);
        }
        tell(x, 0, 95);
        x.man(0, 0, 0, 96);
        due("at 96", x.barred(0), 0);
        tell(x, 0, 23, 1, 29);
        due("till 77", x.barred(0), 0);
        x.man(0, 0, 0, 77);
        due("at the end", x.barred(0), 0);
        x.man(0, 0, 0, 76);
        due("behind the end", x.barred(0), 101);
        tell(x, 0, 23, 1, 53);
        x.man(0, 0, 0, 96);
        due("behind hour 96", x.barred(0), 101);
        StampTales late = mapped(INLAND + "run x y at 0 for 48 cost 0;");
        tell(late, 0, 96);
        due("one that leaves at 96", late.barred(0), 100);
    }

    private static void sleepless() {
        sentence("Terms 4", "2 too little SLEEP (by the first such DAY);");
        StampTales x = mapped(INLAND + "run x y at 3 for 5 cost 0;run y x at 23 for 6 cost 0;"
            + "run x y at 0 for 8 cost 0;");
        int[][] legs = {{0, 3}, {0, 27}, {0, 51}, {0, 75}, {0, 3, 1, 23}, {0, 27, 1, 71}};
        int[] days = {0, 1, 2, 3, 0, 1};
        for (int i = 0; i < legs.length; i++) {
            tell(x, legs[i]);
            for (int sleep = 0; sleep <= 4; sleep++) {
                x.man(0, 0, sleep, 96);
                due("row " + i + ", sleep " + sleep, x.barred(0), sleep <= 3 ? 0 : 200 + days[i]);
            }
        }
        tell(x, 0, 27, 1, 71, 2, 0);
        due("a leg is ahead of it", x.barred(0), 102);
        tell(x, 2, 72);
        x.man(0, 0, 1, 96);
        due("a whole night", x.barred(0), 203);
        x.man(0, 0, 1, 80);
        due("over at the end", x.barred(0), 203);
        tell(x, 0, 75);
        x.man(0, 0, 4, 80);
        due("over at the end", x.barred(0), 203);
        x.paper(0, 0, 80);
        x.look(0, 0, 80, 96);
        x.stamp(0, 0, true, 0, 0);
        due("it is ahead of stamps, papers and looks", x.barred(0), 203);
        StampTales y = mapped(INLAND + "run x y at 3 for 3 cost 0;run y x at 6 for 2 cost 0;");
        tell(y, 0, 3);
        y.man(0, 0, 4, 7);
        due("a night that is not over", y.barred(0), 0);
        tell(y, 0, 3, 1, 6);
        y.man(0, 0, 4, 8);
        due("two legs in one night", y.barred(0), 200);
        y.man(0, 0, 3, 8);
        due("three hours are left", y.barred(0), 0);
    }

    private static StampTales stamped(int... row) {
        StampTales x = mapped(BORDER);
        for (int i = 0; i < row.length; i += 3) {
            x.stamp(0, row[i], row[i + 1] == 1, row[i + 2], row[i + 2]);
        }
        return x;
    }

    private static void wrongStamps() {
        sentence("Terms 4", "3 a stamp unlike what he has (by the first, counted from 0 on, that is wrong, too much "
            + "or lacks, in the row of STAMPS that aren't DOUBTED);");
        int[] right = {0, 1, 0, 1, 0, 0, 1, 1, 1, 0, 0, 1};
        StampTales x = stamped(right);
        tell(x, 0, 9, 1, 44);
        due("all four", x.barred(0), 0);
        for (int i = 0; i < right.length; i++) {
            int[] row = right.clone();
            row[i] = i % 3 == 2 ? row[i] + 1 : 1 - row[i];
            StampTales y = stamped(row);
            tell(y, 0, 9, 1, 44);
            due("wrong by its part " + i, y.barred(0), 300 + i / 3);
        }
        for (int many = 0; many < 4; many++) {
            StampTales y = stamped(java.util.Arrays.copyOf(right, 3 * many));
            tell(y, 0, 9, 1, 44);
            due("he has " + many + ", so one is too much", y.barred(0), 300 + many);
        }
        tell(x, 0, 9);
        due("the third lacks", x.barred(0), 302);
        x.forget();
        due("the first lacks", x.barred(0), 300);
        tell(x, 0, 9, 1, 44, 0, 57);
        due("the fifth is too much", x.barred(0), 304);
        tell(x, 0, 9, 1, 20, 0, 33);
        due("the third is wrong, the fifth too much", x.barred(0), 302);
        due("nothing told, no stamps", stamped().barred(0), 0);
        doubtedStamps(right);
        x.paper(0, 0, 10);
        x.look(0, 0, 10, 10);
        due("it is ahead of papers and looks", x.barred(0), 302);
    }

    private static void doubtedStamps(int[] right) {
        StampTales x = stamped(right);
        tell(x, 0, 9, 1, 44);
        x.doubt(0, 0, true);
        due("the first one is the second now", x.barred(0), 300);
        x.doubt(0, 0, false);
        x.doubt(0, 2, true);
        due("the third one is the fourth now", x.barred(0), 302);
        x.doubt(0, 3, true);
        due("two are left", x.barred(0), 302);
        tell(x, 0, 9);
        due("those two", x.barred(0), 0);
        x.paper(0, 1, 20);
        x.stamp(0, 0, true, 1, 1);
        due("one more behind a paper, the third of the row", x.barred(0), 302);
        x.doubt(0, 0, true);
        x.doubt(0, 1, true);
        x.doubt(0, 5, true);
        x.doubt(0, 4, true);
        x.forget();
        due("all doubted", x.barred(0), 0);
    }

    private static void missed() {
        sentence("Terms 4", "4 a PAPER, 5 a LOOK he doesn't fit (by its number among TRACES, the least).");
        StampTales x = mapped(INLAND + "sail x y at 10 for 5 cost 0;");
        tell(x, 0, 10);
        x.man(0, 0, 0, 50);
        for (int hour = 0; hour <= 96; hour++) {
            x.paper(0, 0, hour);
            due("a paper in x at " + hour, x.barred(0), hour <= 10 || hour > 50 ? 0 : 400);
            x.undo(0);
            x.paper(0, 1, hour);
            due("a paper in y at " + hour, x.barred(0), hour >= 15 ? 0 : 400);
            x.undo(0);
            x.look(0, 0, hour, 96);
            due("a look in x from " + hour, x.barred(0), hour <= 10 ? 0 : 500);
            x.undo(0);
            x.look(0, 1, hour, 96);
            due("a look in y from " + hour, x.barred(0), hour <= 50 ? 0 : 500);
            x.undo(0);
            x.look(0, 1, 0, hour);
            due("a look in y till " + hour, x.barred(0), hour >= 15 ? 0 : 500);
            x.undo(0);
        }
        x.look(0, 0, 11, 14);
        x.paper(0, 0, 10);
        x.look(0, 1, 14, 14);
        x.paper(0, 0, 11);
        x.paper(0, 1, 14);
        x.paper(0, 1, 15);
        int[] bars = {403, 404, 500, 502, 0};
        int[] doubts = {3, 4, 0, 2};
        for (int i = 0; i < bars.length; i++) {
            due("the least that isn't doubted", x.barred(0), bars[i]);
            if (i < doubts.length) {
                x.doubt(0, doubts[i], true);
            }
        }
        x.doubt(0, 4, false);
        due("no more doubted", x.barred(0), 404);
    }

    private static void inOrder() {
        sentence("Terms 4", "BARRED is told of a man by the first that holds:");
        StampTales x = mapped("land a both;land b both;town x of a;town y of b;run x y at 3 for 5 cost 0;"
            + "run y x at 20 for 1 cost 0;");
        x.look(0, 1, 0, 2);
        x.paper(0, 1, 4);
        x.man(0, 0, 4, 24);
        tell(x, 0, 3, 0, 3);
        due("a leg", x.barred(0), 101);
        tell(x, 0, 3);
        due("sleep", x.barred(0), 200);
        x.man(0, 0, 3, 24);
        due("a stamp", x.barred(0), 300);
        x.stamp(0, 0, true, 0, 0);
        x.stamp(0, 1, false, 0, 0);
        due("a paper", x.barred(0), 401);
        x.doubt(0, 1, true);
        due("a look", x.barred(0), 500);
        x.doubt(0, 0, true);
        due("nothing", x.barred(0), 0);
        due("of the other: a stamp", x.barred(1), 300);
        x.man(1, 1, 0, 96);
        due("of the other: a leg", x.barred(1), 100);
        sentence("promise 25", "BARRED: its kind times 100 and by what; 0 if nothing bars it; NONE if there is no "
            + "such man, or no MAP.");
        for (int man : NOBODY) {
            due("of " + man, x.barred(man), -1);
        }
        due("without a map", new StampTales().barred(0), -1);
        due("without a map", new StampTales().barred(1), -1);
        StampTales y = mapped(INLAND + daily(5));
        twenty(y);
        y.man(0, 0, 0, 34);
        due("20 legs", y.barred(0), 0);
        y.man(0, 0, 0, 33);
        due("the 20th comes behind the end", y.barred(0), 119);
    }

    private static void counts() {
        sentence("promise 26", "0 LANDS, 1 TOWNS, 2 LINKS, 3 and 4 TRACES of the MEN, 5 LEGS, 6 bytes of the text. "
            + "NONE for others.");
        StampTales x = new StampTales();
        countsAre(x, 0, 0, 0, 0, 0, 0, 0);
        feed(x, BORDER + "land c in;");
        countsAre(x, 0, 0, 0, 0, 0, 0, BORDER.length() + 10);
        x.map();
        countsAre(x, 3, 2, 2, 0, 0, 0, 0);
        x.paper(0, 0, 0);
        x.paper(1, 0, 0);
        x.look(1, 0, 0, 0);
        tell(x, 0, 1, 0, 1, 0, 1, 0, 1);
        x.feed(0, 0, 0, 0, 0);
        countsAre(x, 3, 2, 2, 1, 2, 4, 20);
        x.doubt(1, 1, true);
        countsAre(x, 3, 2, 2, 1, 2, 4, 20);
        x.undo(0);
        x.forget();
        x.end(7);
        countsAre(x, 3, 2, 2, 0, 2, 0, 7);
        for (int other : FAR) {
            due("count " + other, x.count(other), -1);
        }
        for (int other = 7; other < 70; other++) {
            due("count " + other, x.count(other), -1);
        }
    }

    private static void countsAre(StampTales x, int... want) {
        for (int what = 0; what < want.length; what++) {
            due("count " + what, x.count(what), want[what]);
        }
    }

    public static void main(String[] args) {
        told();
        legs();
        wrongLegs();
        sleepless();
        wrongStamps();
        missed();
        inOrder();
        counts();
        report("StoryEdgesTest", "");
    }
}
