/**
 * The edges that the document names for what is counted, where he MAY be and SURELY is, cheapest, to doubt, away and
 * met (part 3 of Terms, and promises 16 to 22), sentence by sentence.
 */
public final class FindingEdgesTest extends Checks {
    private static final String INLAND = "land a none;town x of a;town y of a;";
    private static final String THREE = INLAND + "town z of a;";
    private static final String BORDER = "land a both;land b both;town x of a;town y of b;run x y at 9 for 5 cost 7;"
        + "run y x at 20 for 5 cost 3;";
    private static final int[] NOBODY = {-2, -1, 2, 3, 256, Integer.MIN_VALUE, Integer.MAX_VALUE};
    private static final int[] NEVER = {-97, -2, -1, 97, 98, 256, Integer.MIN_VALUE, Integer.MAX_VALUE};

    private static StampTales sail(int hour, int lasts) {
        return mapped(INLAND + "sail x y at " + hour + " for " + lasts + " cost 1;");
    }

    /** A map that was looked for: it has one way less than are told at most, and a link is left for more. */
    private static String ways999999999() {
        StringBuilder text = new StringBuilder(THREE);
        int[] there = {2, 2, 11, 13, 16, 17, 21};
        int[][] back = {{11, 1}, {14, 2}, {19, 2}, {20, 1}, {22, 1}};
        for (int hour : there) {
            text.append("run x y at").append(hour).append("for1cost1;");
        }
        for (int[] link : back) {
            text.append("run y x at").append(link[0]).append("for").append(link[1]).append("cost1;");
        }
        return text + "sail x z at16for1cost1;sail y x at27for24cost1;sail y x at38for13cost1;";
    }

    private static void mostWays() {
        sentence("Terms 3", "WAYS are told up to 1000000000 (that, if there are more);");
        String text = ways999999999();
        due("one less", mapped(text).ways(0), 999999999);
        due("just so many", mapped(text + "sail x z at0for1cost1;").ways(0), 1000000000);
        due("one more", mapped(text + "sail y z at5for1cost1;").ways(0), 1000000000);
        due("many more", mapped(text + "run x z at0for1cost1;").ways(1), 1000000000);
        StampTales x = mapped(text + "run y z at23for1cost1;");
        x.paper(0, 2, 96);
        x.paper(0, 1, 95);
        due("more ways than are told, and of them those that fit", x.ways(0) > 1 && x.ways(0) < 1000000000, true);
        x.man(1, 2, 0, 96);
        due("the other has one", x.ways(1), 1);
        for (int hour : new int[] {0, 1, 50, 96}) {
            due("many ways go on from where he can't be, at " + hour, x.may(1, hour), 4);
            due("many ways go on from where he can't be, at " + hour, x.surely(1, hour), 2);
        }
        StringBuilder all = new StringBuilder(INLAND);
        for (int i = 0; i < 16; i++) {
            all.append(i % 2 == 0 ? "run x y at" : "run y x at").append(i).append("for1cost99;");
        }
        due("as many as can be", mapped(all.toString()).ways(0), 1000000000);
    }

    private static void unlikeWays() {
        sentence("Terms 3", "two are unlike, if at some hour he STAYS in one and not in the other, or takes unlike "
            + "LINKS.");
        due("like links are unlike", mapped(INLAND + "sail x y at 5 for 3 cost 1;"
            + "sail x y at 5 for 3 cost 1;").ways(0), 3);
        due("a run and a sail", mapped(INLAND + "sail x y at 5 for 48 cost 1;run x y at 5 for 48 cost 1;").ways(0), 4);
        due("of unlike length", mapped(INLAND + "sail x y at 5 for 3 cost 1;sail x y at 5 for 4 cost 1;").ways(0), 3);
        due("at unlike hours", mapped(INLAND + "sail x y at 5 for 3 cost 1;sail x y at 6 for 2 cost 1;").ways(0), 3);
        due("one link at unlike hours", mapped(INLAND + "run x y at 5 for 3 cost 1;").ways(0), 5);
        due("to stay is one way", mapped(INLAND).ways(0), 1);
    }

    private static void may() {
        sentence("Terms 3", "He MAY be in a TOWN at an hour, if he is there then in some WAY that FITS;");
        StampTales x = mapped(THREE + "sail x y at 3 for 2 cost 1;sail x z at 3 for 4 cost 1;"
            + "sail y z at 9 for 1 cost 1;");
        int[] hours = {0, 3, 4, 5, 6, 7, 9, 10, 96};
        int[] want = {1, 1, 257, 259, 259, 7, 7, 7, 7};
        for (int i = 0; i < hours.length; i++) {
            due("at " + hours[i], x.may(0, hours[i]), want[i]);
        }
        x.look(0, 2, 8, 10);
        int[] fitting = {1, 1, 256, 258, 258, 6, 6, 4, 4};
        for (int i = 0; i < hours.length; i++) {
            due("seen in z, at " + hours[i], x.may(0, hours[i]), fitting[i]);
        }
        sentence("Terms 3", "he MAY be under WAY at an hour, if in some WAY that FITS he is on a LINK that left "
            + "ahead of it and comes behind it.");
        for (int hour = 0; hour <= 95; hour++) {
            for (int lasts = 1; lasts <= 48 && hour + lasts <= 96; lasts += lasts < 3 ? 1 : 9) {
                StampTales y = sail(hour, lasts);
                for (int h = Math.max(0, hour - 1); h <= Math.min(96, hour + lasts + 1); h++) {
                    boolean under = hour < h && h < hour + lasts;
                    due("from " + hour + " for " + lasts + ", at " + h, y.may(0, h) >= 256, under);
                }
            }
        }
        StampTales y = sail(10, 5);
        y.paper(0, 0, 20);
        due("not in a way that doesn't fit", y.may(0, 12), 1);
    }

    private static void askedWhere() {
        sentence("promise 16", "TOWNS (bits) in which he MAY be at an hour, and 256 more, if he MAY be under WAY; "
            + "NONE if they can't be (hours 0 .. his END).");
        StringBuilder text = new StringBuilder("land a in;");
        for (int i = 0; i < 8; i++) {
            text.append("town ").append((char) ('p' + i)).append(" of a;");
        }
        for (int i = 1; i < 8; i++) {
            text.append("sail p ").append((char) ('p' + i)).append(" at ").append(i).append(" for ").append(10 - i)
                .append(" cost 1;");
        }
        StampTales x = mapped(text + "sail p w at 9 for 5 cost 1;");
        due("all towns and under way", x.may(0, 10), 511);
        due("all towns", x.may(0, 14), 255);
        x.man(1, 7, 0, 50);
        due("the last town", x.may(1, 50), 128);
        due("behind his end", x.may(1, 51), -1);
        due("not behind the other's", x.may(0, 51), 255);
        x.man(1, 7, 0, 1);
        due("the least end", x.may(1, 1), 128);
        due("behind the least end", x.may(1, 2), -1);
        due("at 96", x.may(0, 96), 255);
        wrongArguments(x);
        StampTales y = sail(10, 5);
        y.paper(0, 1, 15);
        due("under way alone", y.may(0, 12), 256);
        y.paper(0, 1, 10);
        for (int h : new int[] {0, 12, 96}) {
            due("no way fits, at " + h, y.may(0, h), 0);
        }
    }

    private static void wrongArguments(StampTales x) {
        for (int man : NOBODY) {
            due("may of " + man, x.may(man, 0), -1);
            due("surely of " + man, x.surely(man, 0), -1);
        }
        for (int hour : NEVER) {
            due("may at " + hour, x.may(0, hour), -1);
            due("surely at " + hour, x.surely(0, hour), -1);
        }
        for (int man = 0; man < 2; man++) {
            due("may without a map", new StampTales().may(man, 0), -1);
            due("surely without a map", new StampTales().surely(man, 0), -1);
        }
    }

    private static void surely() {
        sentence("Terms 3", "SURELY, if in all;");
        StampTales x = mapped(THREE + "sail x y at 3 for 2 cost 1;sail x z at 3 for 4 cost 1;"
            + "sail z y at 7 for 1 cost 1;");
        due("at first", x.surely(0, 0), 0);
        due("ahead of all links", x.surely(0, 3), 0);
        due("some are under way", x.surely(0, 4), -1);
        due("in two towns", x.surely(0, 96), -1);
        x.paper(0, 1, 8);
        due("by unlike ways", x.surely(0, 8), 1);
        due("by unlike ways, for good", x.surely(0, 96), 1);
        due("y or under way", x.surely(0, 6), -1);
        due("y or z", x.surely(0, 7), -1);
        x.paper(0, 2, 7);
        due("all under way", x.surely(0, 4), -1);
        due("the one way that is left", x.surely(0, 7), 2);
        sentence("promise 17", "The TOWN in which he SURELY is at an hour; NONE if there is none, no WAY FITS, or "
            + "they can't be.");
        x.paper(0, 0, 7);
        for (int h : new int[] {0, 3, 7, 8, 96}) {
            due("no way fits, at " + h, x.surely(0, h), -1);
        }
        x.man(1, 2, 0, 7);
        due("at the end of the other", x.surely(1, 7), 2);
        due("behind it", x.surely(1, 8), -1);
        wrongArguments(x);
    }

    private static void extremes() {
        sentence("Terms 3", "The CHEAPEST WAY is one that FITS with the least P of all its LINKS, the PLAINEST with "
            + "the fewest LINKS, DEAREST and LONGEST likewise with the most.");
        StampTales x = mapped(THREE + "sail x z at 5 for 20 cost 50;sail x y at 5 for 4 cost 30;"
            + "sail y z at 9 for 16 cost 15;sail x y at 6 for 4 cost 90;sail y z at 20 for 1 cost 9;");
        extremesOf(x, "without traces", 0, 99, 0, 2);
        x.paper(0, 2, 25);
        extremesOf(x, "two links are cheaper than one", 39, 99, 1, 2);
        x.look(0, 1, 9, 9);
        extremesOf(x, "of those that fit alone", 39, 45, 2, 2);
        x.paper(0, 2, 21);
        extremesOf(x, "one way", 39, 39, 2, 2);
        x.paper(0, 0, 21);
        extremesOf(x, "no way", -1, -1, -1, -1);
        extremesOf(mapped(INLAND), "who stays", 0, 0, 0, 0);
        StringBuilder all = new StringBuilder(INLAND);
        for (int i = 0; i < 16; i++) {
            all.append(i % 2 == 0 ? "run x y at" : "run y x at").append(i).append("for1cost99;");
        }
        extremesOf(mapped(all.toString()), "64 links of 99 each", 0, 6336, 0, 64);
        extremesOf(mapped(INLAND + "run x y at 5 for 1 cost 0;"
            + "run y x at 6 for 1 cost 0;"), "links that cost nothing", 0, 0, 0, 8);
        extremesOf(mapped(INLAND + "run x y at 5 for 1 cost 1;sail x y at 0 for 48 cost 99;run y x at 6 for 1 cost 1;"),
            "the dearest is not the longest", 0, 102, 0, 8);
        sentence("promise 18", "0 what the CHEAPEST WAY costs, 1 the DEAREST, 2 LINKS of the PLAINEST, 3 of the "
            + "LONGEST; NONE for others, if no WAY FITS, or they can't be.");
        for (int other : new int[] {-2, -1, 4, 5, 6, 7, 32, 256, Integer.MIN_VALUE, Integer.MAX_VALUE}) {
            due("extreme " + other, sail(1, 1).extreme(0, other), -1);
        }
        for (int what = 0; what < 4; what++) {
            for (int man : NOBODY) {
                due("extreme of " + man, sail(1, 1).extreme(man, what), -1);
            }
            due("without a map", new StampTales().extreme(0, what), -1);
        }
    }

    private static void extremesOf(StampTales x, String name, int... want) {
        for (int what = 0; what < 4; what++) {
            due(name + ": extreme " + what, x.extreme(0, what), want[what]);
        }
    }

    private static void taleIs(String name, StampTales x, int... want) {
        due(name + ", links", x.tale(0, -1), want.length);
        for (int k = 0; k < want.length; k++) {
            due(name + ", link " + k, x.tale(0, k), want[k]);
        }
        due(name + ", one more", x.tale(0, want.length), -1);
    }

    private static StampTales comeTo(int town, int hour, String text) {
        StampTales x = mapped(text);
        x.paper(0, town, hour);
        return x;
    }

    private static void tale() {
        sentence("Terms 3", "The TALE is the CHEAPEST WAY that is first: at the first hour at which two are unlike, "
            + "to STAY is ahead, then the less LINK.");
        taleIs("who may stay stays", mapped(INLAND + "sail x y at 5 for 3 cost 0;"));
        taleIs("the cheaper one, though it leaves first", comeTo(1, 20, INLAND + "sail x y at 4 for 2 cost 3;"
            + "sail x y at 9 for 2 cost 4;"), 4);
        taleIs("of like ones who stays longer", comeTo(1, 20, INLAND + "sail x y at 4 for 2 cost 3;"
            + "sail x y at 9 for 2 cost 3;"), 109);
        taleIs("a run as late as can be", comeTo(1, 80, INLAND + "run x y at 5 for 3 cost 2;"), 77);
        taleIs("of one hour the less link, though it is longer", comeTo(1, 20, INLAND + "sail x y at 9 for 8 cost 3;"
            + "sail x y at 9 for 2 cost 3;"), 9);
        taleIs("of one hour the cheaper link, though it is more", comeTo(1, 20, INLAND + "sail x y at 9 for 8 cost 3;"
            + "sail x y at 9 for 2 cost 2;"), 109);
        taleIs("the less link, though more links behind it", comeTo(2, 20, THREE + "sail x y at 9 for 1 cost 1;"
            + "sail x z at 9 for 1 cost 3;sail y z at 10 for 1 cost 2;"), 9, 210);
        taleIs("behind a like link, who stays", comeTo(2, 20, THREE + "sail x y at 9 for 1 cost 1;"
            + "sail y z at 10 for 1 cost 2;sail y z at 11 for 1 cost 2;"), 9, 211);
        taleIs("behind the less link, though the other leaves later there", comeTo(2, 30, THREE
            + "sail x y at 9 for 9 cost 1;sail x y at 9 for 1 cost 1;sail y z at 18 for 1 cost 2;"
            + "sail y z at 12 for 1 cost 2;"), 9, 218);
        taleIs("the first hour counts, not the last", comeTo(1, 20, INLAND + "sail x y at 6 for 9 cost 0;"
            + "sail x y at 5 for 1 cost 0;sail y x at 7 for 1 cost 0;"), 6);
        StampTales seen = comeTo(1, 20, INLAND + "sail x y at 1 for 1 cost 1;sail x y at 10 for 5 cost 2;");
        seen.look(0, 0, 3, 4);
        taleIs("seen at home first", seen, 110);
        StampTales asleep = comeTo(1, 20, INLAND + "sail x y at 3 for 9 cost 1;sail x y at 4 for 9 cost 1;");
        asleep.man(0, 0, 4, 96);
        taleIs("asleep at home first", asleep, 104);
        taleIs("links that cost nothing are not taken for nothing", comeTo(1, 20, INLAND + "run x y at 5 for 1 cost 0;"
            + "run y x at 8 for 1 cost 0;"), 5);
    }

    private static void longTale() {
        StringBuilder text = new StringBuilder("land k in;");
        for (int i = 0; i < 8; i++) {
            text.append("town ").append((char) ('p' + i)).append(" of k;");
        }
        for (int i = 0; i < 7; i++) {
            text.append("run ").append((char) ('p' + i)).append(' ').append((char) ('q' + i)).append(" at").append(i)
                .append("for1cost2;");
            text.append("run ").append((char) ('q' + i)).append(' ').append((char) ('p' + i)).append(" at")
                .append(20 - i).append("for1cost3;");
        }
        StampTales x = mapped(text.toString());
        int[] want = new int[56];
        for (int day = 0; day < 4; day++) {
            x.paper(0, 7, 24 * day + 10);
            x.paper(0, 0, 24 * day + 22);
            for (int i = 0; i < 7; i++) {
                want[14 * day + i] = 2 * i * 100 + 24 * day + i;
                want[14 * day + 7 + i] = (13 - 2 * i) * 100 + 24 * day + 14 + i;
            }
        }
        due("one way", x.ways(0), 1);
        due("its cost", x.extreme(0, 0), 140);
        taleIs("56 links", x, want);
        x.man(0, 0, 1, 96);
        taleIs("one hour of sleep is left", x, want);
        x.man(0, 0, 2, 96);
        due("two are not", x.tale(0, -1), -1);
    }

    private static void askedForTheTale() {
        sentence("promise 19", "The TALE: how many LINKS (k NONE), or the k-th LINK * 100 and its hour; NONE if no "
            + "WAY FITS, or there is none such.");
        longTale();
        StampTales x = comeTo(1, 20, INLAND + "run x y at 0 for 1 cost 1;");
        due("k NONE", x.tale(0, StampTales.NONE), 1);
        due("link 0 at hour 0", x.tale(0, 0), 0);
        for (int k : new int[] {-3, -2, 1, 2, 96, 97, 256, Integer.MIN_VALUE, Integer.MAX_VALUE}) {
            due("k " + k, x.tale(0, k), -1);
        }
        for (int man : NOBODY) {
            due("of " + man, x.tale(man, -1), -1);
            due("of " + man, x.tale(man, 0), -1);
        }
        due("the other stays", x.tale(1, -1), 0);
        due("the other has no link", x.tale(1, 0), -1);
        x.paper(0, 0, 20);
        due("no way fits", x.tale(0, -1), -1);
        due("no way fits", x.tale(0, 0), -1);
        due("without a map", new StampTales().tale(0, -1), -1);
        due("without a map", new StampTales().tale(0, 0), -1);
        StringBuilder text = new StringBuilder(INLAND);
        for (int i = 0; i < 16; i++) {
            text.append("sail x y at ").append(80 + i).append("for1cost").append(20 - i).append(";");
        }
        taleIs("link 15 at hour 95", comeTo(1, 96, text.toString()), 1595);
    }

    private static StampTales papers(String text, int... townsAndHours) {
        StampTales x = mapped(text);
        for (int i = 0; i < townsAndHours.length; i += 2) {
            due("paper", x.paper(0, townsAndHours[i], townsAndHours[i + 1]), i / 2);
        }
        return x;
    }

    private static void toDoubt() {
        sentence("Terms 3", "TO DOUBT are the fewest TRACES (besides those DOUBTED), of like ones the least as bits, "
            + "without which some WAY FITS.");
        String text = INLAND + "sail x y at 10 for 5 cost 1;";
        due("the fewest, though more as bits", papers(text, 1, 5, 1, 6, 0, 5, 0, 6, 0, 7).toDoubt(0), 3);
        due("the fewest, though more as bits", papers(text, 0, 20, 0, 30, 1, 40).toDoubt(0), 4);
        due("the least of like ones", papers(text, 1, 20, 0, 20, 0, 20, 1, 20).toDoubt(0), 6);
        due("the least of like ones", papers(text, 0, 20, 1, 20, 1, 20, 0, 20).toDoubt(0), 6);
        due("the first of two", papers(text, 0, 20, 1, 20).toDoubt(0), 1);
        due("the first of two", papers(text, 1, 20, 0, 20).toDoubt(0), 1);
        due("those of two hours under way", papers(text, 1, 20, 0, 11, 1, 30, 0, 14, 1, 40).toDoubt(0), 10);
        due("two of one hour under way", papers(text, 1, 20, 1, 30, 0, 12, 0, 12, 1, 40).toDoubt(0), 12);
        due("two of one hour in a town", papers(text, 0, 20, 1, 3, 1, 3).toDoubt(0), 6);
        due("all", papers(text, 1, 1, 1, 2, 1, 3, 1, 4, 1, 5, 1, 6, 1, 7, 1, 8).toDoubt(0), 255);
        StampTales x = papers(text, 0, 20, 1, 20, 1, 30, 0, 12);
        due("those of x", x.toDoubt(0), 6);
        x.doubt(0, 3, true);
        due("besides a doubted one", x.toDoubt(0), 1);
        x.doubt(0, 0, true);
        due("besides two doubted ones", x.toDoubt(0), 0);
        x.doubt(0, 0, false);
        x.doubt(0, 3, false);
        due("no more doubted", x.toDoubt(0), 6);
        due("a paper behind the end needs no doubt", beyond(false).toDoubt(0), 0);
        due("a look behind the end does", beyond(true).toDoubt(0), 1);
        stampsToDoubt();
    }

    private static StampTales beyond(boolean look) {
        StampTales x = sail(10, 5);
        x.man(0, 0, 0, 50);
        if (look) {
            x.look(0, 0, 51, 96);
        } else {
            x.paper(0, 1, 51);
        }
        return x;
    }

    private static void stampsToDoubt() {
        StampTales x = mapped(BORDER);
        for (int i = 0; i < 6; i++) {
            x.stamp(0, 1, true, 5, 5);
        }
        x.look(0, 1, 0, 13);
        x.look(0, 1, 0, 12);
        due("six stamps and two looks", x.toDoubt(0), 255);
        StampTales y = mapped(BORDER);
        y.stamp(0, 0, false, 0, 0);
        y.stamp(0, 0, true, 0, 0);
        y.stamp(0, 0, false, 0, 0);
        y.stamp(0, 1, false, 0, 0);
        y.stamp(0, 1, false, 0, 0);
        due("ahead of, between and behind the stamps of one crossing", y.toDoubt(0), 13);
        y.man(0, 1, 0, 96);
        due("from the other home", y.toDoubt(0), 31);
        StampTales back = mapped(BORDER);
        back.man(0, 1, 0, 96);
        back.stamp(0, 1, true, 0, 0);
        back.stamp(0, 1, false, 0, 0);
        back.stamp(0, 0, false, 1, 1);
        due("between the stamps of a crossing into land 0", back.toDoubt(0), 2);
    }

    private static void askedToDoubt() {
        sentence("promise 20", "TO DOUBT (bits; 0 if some WAY FITS); NONE if none do, or they can't be.");
        due("some way fits", papers(INLAND, 0, 20).toDoubt(0), 0);
        due("no trace", papers(INLAND).toDoubt(0), 0);
        due("some do without all of them", papers(INLAND, 1, 0).toDoubt(0), 1);
        due("the eighth alone", papers(INLAND, 0, 0, 0, 1, 0, 2, 0, 3, 0, 4, 0, 5, 0, 6, 1, 7).toDoubt(0), 128);
        StampTales x = sail(0, 8);
        x.man(0, 0, 4, 96);
        x.paper(0, 1, 8);
        due("for want of sleep", x.toDoubt(0), 1);
        for (int man : NOBODY) {
            due("of " + man, x.toDoubt(man), -1);
        }
        due("without a map", new StampTales().toDoubt(0), -1);
        due("without a map", new StampTales().toDoubt(1), -1);
    }

    private static void away() {
        sentence("Terms 3", "AWAY is the TRACE (not DOUBTED) without which there are most WAYS, more than with it; "
            + "of like ones the least.");
        String text = INLAND + "sail x y at 10 for 5 cost 0;sail x y at 12 for 5 cost 0;sail y x at 30 for 1 cost 0;";
        due("one that bars ways", papers(text, 0, 11).away(0), 0);
        due("one that bars none", papers(text, 0, 10).away(0), -1);
        due("two, of which each bars as much without the other", papers(text, 0, 11, 0, 11).away(0), -1);
        due("the first of two bars more", papers(text, 0, 11, 1, 29).away(0), 0);
        due("the second of two bars more", papers(text, 1, 29, 0, 11).away(0), 1);
        due("the last of three bars ways alone", papers(text, 0, 11, 0, 10, 0, 14).away(0), 2);
        due("most ways, though the first would give some", papers(text, 1, 20, 0, 20).away(0), 1);
        due("the least of like ones", papers(INLAND + "sail x y at 10 for 5 cost 0;", 0, 20, 1, 20).away(0), 0);
        due("the least of like ones", papers(INLAND + "sail x y at 10 for 5 cost 0;", 1, 20, 0, 20).away(0), 0);
        StampTales x = papers(text, 1, 29, 0, 11);
        x.doubt(0, 1, true);
        due("not the doubted one", x.away(0), 0);
        x.doubt(0, 0, true);
        due("both doubted", x.away(0), -1);
        StampTales y = mapped(BORDER);
        y.stamp(0, 0, true, 0, 0);
        due("a stamp that can't be alone", y.away(0), 0);
        y.stamp(0, 1, false, 0, 0);
        due("two of one crossing need one another", y.away(0), -1);
        y.look(0, 1, 0, 13);
        due("the look that bars it", y.away(0), 2);
        StampTales most = mapped(ways999999999() + "run x z at0for1cost1;");
        most.paper(0, 0, 0);
        most.look(0, 0, 1, 1);
        due("more ways than are told, with and without", most.away(0), -1);
    }

    private static void askedAway() {
        sentence("promise 21", "AWAY; NONE if there is none, or they can't be.");
        due("no trace", papers(INLAND).away(0), -1);
        due("the eighth", papers(INLAND, 0, 0, 0, 1, 0, 2, 0, 3, 0, 4, 0, 5, 0, 6, 1, 7).away(0), 7);
        due("two that can't be", papers(INLAND, 1, 3, 1, 4).away(0), -1);
        StampTales x = papers(INLAND, 1, 3);
        for (int man : NOBODY) {
            due("of " + man, x.away(man), -1);
        }
        due("of the other", x.away(1), -1);
        due("without a map", new StampTales().away(0), -1);
        due("without a map", new StampTales().away(1), -1);
        due("asked again", x.away(0), 0);
        due("asked again", x.away(0), 0);
        due("the ways are what they were", x.ways(0), 0);
    }

    private static void metIs(StampTales x, int hour, int may, int surely) {
        due("met at " + hour, x.met(hour, false), may);
        due("met surely at " + hour, x.met(hour, true), surely);
    }

    private static void met() {
        sentence("Terms 3", "They MAY MEET in a TOWN at an hour, if each MAY be there; they SURELY MEET, if both "
            + "SURELY are.");
        StampTales x = mapped(THREE + "sail x y at 10 for 5 cost 0;sail z y at 10 for 5 cost 0;");
        metIs(x, 0, 1, 1);
        metIs(x, 10, 1, 1);
        metIs(x, 12, 1, 0);
        metIs(x, 20, 3, 0);
        x.man(1, 2, 0, 96);
        metIs(x, 0, 0, 0);
        metIs(x, 12, 0, 0);
        metIs(x, 20, 2, 0);
        x.paper(0, 1, 20);
        metIs(x, 20, 2, 0);
        metIs(x, 14, 0, 0);
        x.paper(1, 1, 15);
        metIs(x, 12, 0, 0);
        metIs(x, 15, 2, 2);
        metIs(x, 96, 2, 2);
        x.doubt(0, 0, true);
        metIs(x, 96, 2, 0);
        sentence("promise 22", "TOWNS (bits) in which they MAY MEET at an hour (surely: SURELY, the one); NONE if it "
            + "can't be (0 .. 96), or is behind an END.");
        x.paper(1, 0, 20);
        metIs(x, 0, 0, 0);
        metIs(x, 20, 0, 0);
        for (int hour : NEVER) {
            metIs(x, hour, -1, -1);
        }
        StampTales y = mapped(INLAND);
        for (int man = 0; man < 2; man++) {
            y.man(man, 0, 0, 40);
            metIs(y, 40, 1, 1);
            metIs(y, 41, -1, -1);
            y.man(man, 1, 0, 96);
            metIs(y, 41, 0, 0);
            y.man(man, 0, 0, 96);
            metIs(y, 96, 1, 1);
        }
        metIs(new StampTales(), 0, -1, -1);
    }

    public static void main(String[] args) {
        mostWays();
        unlikeWays();
        may();
        askedWhere();
        surely();
        extremes();
        tale();
        askedForTheTale();
        toDoubt();
        askedToDoubt();
        away();
        askedAway();
        met();
        report("FindingEdgesTest", "");
    }
}
