/** Each promise of the document by hand, in its order: ordinary inputs, the edges that it names, and wrong inputs. */
public final class PromisesTest extends Checks {
    private static final int[] ODD = {Integer.MIN_VALUE, -100, -2, 97, 98, 500, 501, Integer.MAX_VALUE};

    private static final String TWO = "land a both;land b both;town x of a;town y of b;";
    private static final String THERE_AND_BACK = TWO + "run x y at 9 for 5 cost 7;run y x at 20 for 5 cost 3;";
    private static final String INLAND = "land a both;town x of a;town y of a;";

    private static void newObject() {
        promise("1");
        StampTales x = new StampTales();
        due("NONE", StampTales.NONE, -1);
        for (int what = 0; what < 7; what++) {
            due("count " + what, x.count(what), 0);
        }
        due("man", x.man(0, 0, 0, 96), false);
        due("stamp", x.stamp(0, 0, true, 0, 0), -1);
        due("paper", x.paper(0, 0, 0), -1);
        due("look", x.look(0, 0, 0, 0), -1);
        due("doubt", x.doubt(0, 0, true), false);
        due("undo", x.undo(0), -1);
        due("link", x.link(0, 0), -1);
        due("town", x.town(0, 0), -99);
        due("trace", x.trace(0, 0, 0), -99);
        due("ways", x.ways(0), -1);
        due("may", x.may(0, 0), -1);
        due("surely", x.surely(0, 0), -1);
        due("extreme", x.extreme(0, 0), -1);
        due("tale", x.tale(0, -1), -1);
        due("toDoubt", x.toDoubt(0), -1);
        due("away", x.away(0), -1);
        due("met", x.met(0, false), -1);
        due("met surely", x.met(0, true), -1);
        due("leg", x.leg(0, 0), -1);
        due("forget", x.forget(), 0);
        due("barred", x.barred(0), -1);
        due("fault", x.fault(), 0);
        due("map", x.map(), -1);
    }

    private static void feedAndEnd() {
        promise("2");
        StampTales x = new StampTales();
        for (int i = 1; i <= 25; i++) {
            due("feed " + i, x.feed(0x3b3b3b3b, 0x3b3b3b3b, 0x3b3b3b3b, 0x3b3b3b3b, 0x3b3b3b3b), 20 * i);
        }
        due("feed too much", x.feed(0, 0, 0, 0, 0), -1);
        due("bytes", x.count(6), 500);
        due("end 481", x.end(481), true);
        due("feed over 500", x.feed(0, 0, 0, 0, 0), -1);
        due("bytes", x.count(6), 481);
        due("end 480", x.end(480), true);
        due("feed to 500", x.feed(0, 0, 0, 0, 0), 500);
        x.end(0);
        // "land a in;town x of " comes whole only with the highest byte first.
        due("feed", x.feed(0x6c616e64, 0x20612069, 0x6e3b746f, 0x776e2078, 0x206f6620), 20);
        due("fault", x.fault(), 20);
        due("feed", x.feed(0x613bff00, 0x80808080, 0, 0, -1), 40);
        due("fault at a high byte", x.fault(), 22);
        promise("3");
        due("end 41", x.end(41), false);
        due("end -1", x.end(-1), false);
        due("end least", x.end(Integer.MIN_VALUE), false);
        due("end most", x.end(Integer.MAX_VALUE), false);
        due("bytes", x.count(6), 40);
        due("end 40", x.end(40), true);
        due("end 22", x.end(22), true);
        due("bytes", x.count(6), 22);
        due("fault", x.fault(), -1);
        due("end 23", x.end(23), false);
        due("end 0", x.end(0), true);
        due("end 0", x.end(0), true);
        due("bytes", x.count(6), 0);
    }

    private static void faultsOfCutTexts() {
        promise("4");
        String text = "land a in;town xy of a plus 12;";
        // A cut inside a word that is not a name leaves a word that can't stand there; else the text ends too early.
        int[] want = {0, 0, 0, 0, 4, 5, 6, 7, 7, 9, 10, 10, 10, 10, 14, 15, 16, 17, 18, 18, 20, 21, 22, 23, 23, 23, 23, 27,
            28, 29, 30, -1};
        StampTales x = new StampTales();
        for (int n = text.length(); n >= 0; n--) {
            feed(x, text);
            x.end(n);
            due("cut behind " + n, x.fault(), want[n]);
        }
        StringBuilder full = new StringBuilder("land a in;town x of a plus ");
        while (full.length() < 500) {
            full.append(full.length() < 499 ? '0' : '7');
        }
        due("500 bytes up to a digit", faultOf(full.toString()), 500);
        full.setCharAt(499, ';');
        due("500 bytes", faultOf(full.toString()), -1);
    }

    private static void faultsOfLandsAndTowns() {
        promise("4");
        due("empty", faultOf(""), 0);
        due("blanks alone", faultOf(" \n "), 3);
        due("no town", faultOf("land a in; "), 11);
        due("early end", faultOf("land"), 4);
        due("early end behind a blank", faultOf("land a in; town x of a "), 23);
        due("tab", faultOf("land a in;\ttown x of a;"), 10);
        due("big letter", faultOf("land A in;"), 5);
        due("big letter in a word", faultOf("land aB in;"), 6);
        due("strange byte behind a wrong token", faultOf("land a b ?"), 7);
        due("strange byte ahead of a wrong token", faultOf("land a ? b"), 7);
        due("number for a name", faultOf("land 1 in;"), 5);
        due("number for a head", faultOf("1"), 0);
        due("word that heads nothing", faultOf("lands a in;"), 0);
        for (String near : "mand sown fun nail".split(" ")) {
            due(near, faultOf(near + " a in;"), 0);
        }
        due("on for in", faultOf("land a on;"), 7);
        due("if for of", faultOf("land a in;town x if a;"), 17);
        due("8 letters", faultOf("land abcdefgh in;town x of abcdefgh;"), -1);
        due("9 letters", faultOf("land abcdefghi in;"), 5);
        due("letters that a code might take for a name", faultOf("land a in;town x of aaaaaaaaaaaaaaaaaaaaaaaaaaaa;"), 20);
        for (String kept : "land town in out both none of plus minus run sail at for cost".split(" ")) {
            due("land " + kept, faultOf("land " + kept + " in;"), 5);
            due("town " + kept, faultOf("land a in;town " + kept + " of a;"), 15);
        }
        due("no blanks", faultOf("land a in;town x of a plus12;"), -1);
        due("line ends", faultOf("\nland\na\nin\n;\ntown\nx\nof\na\n;\n"), -1);
        due("noughts ahead", faultOf("land a in;town x of a plus 0012;"), -1);
        due("plus 13", faultOf("land a in;town x of a plus 13;"), 27);
        due("minus 13", faultOf("land a in;town x of a minus 13;"), 28);
        due("2 to the 32nd", faultOf("land a in;town x of a plus 4294967296;"), 27);
        due("minus", faultOf("land a in;town x of a minus -1;"), 28);
        due("plus without", faultOf("land a in;town x of a plus;"), 26);
        due("twice plus", faultOf("land a in;town x of a plus 1 plus 1;"), 29);
        due("land told twice", faultOf("land a in;land a in;"), 15);
        due("town as a land's name", faultOf("land a in;town x of a;land x in;"), 27);
        due("town told twice", faultOf("land a in;town x of a;town x of a;"), 27);
        due("town of a town", faultOf("land a in;town x of a;town y of x;"), 32);
        due("town of a land not told", faultOf("town x of a;land a in;"), 10);
        String four = "land a in;land b in;land c in;land d in;";
        due("5th land", faultOf(four + "land e in;"), 40);
        due("4 lands", faultOf(four + "town x of d;"), -1);
        StringBuilder towns = new StringBuilder("land a in;");
        for (char c = 'p'; c < 'x'; c++) {
            towns.append("town ").append(c).append(" of a;");
        }
        due("8 towns", faultOf(towns.toString()), -1);
        due("9th town", faultOf(towns + "town"), towns.length());
    }

    private static void faultsOfLinks() {
        promise("4");
        String[] good = {"run x y at 0 for 1 cost 0;", "run x y at 23 for 48 cost 99;", "sail y x at 95 for 1 cost 5;",
            "sail x y at 0 for 48 cost 0;", "run x y at1for1cost1;"};
        for (String link : good) {
            due(link, faultOf(INLAND + link), -1);
        }
        due("at 24", faultOf(INLAND + "run x y at 24 for 1 cost 0;"), INLAND.length() + 11);
        due("at 96", faultOf(INLAND + "sail x y at 96 for 1 cost 0;"), INLAND.length() + 12);
        due("for 0", faultOf(INLAND + "run x y at 0 for 0 cost 0;"), INLAND.length() + 17);
        due("for 49", faultOf(INLAND + "run x y at 0 for 49 cost 0;"), INLAND.length() + 17);
        due("cost 100", faultOf(INLAND + "run x y at 0 for 1 cost 100;"), INLAND.length() + 24);
        due("same town", faultOf(INLAND + "run x x at 0 for 1 cost 0;"), INLAND.length() + 6);
        due("land for a town", faultOf(INLAND + "run a y at 0 for 1 cost 0;"), INLAND.length() + 4);
        due("land for the other town", faultOf(INLAND + "run x a at 0 for 1 cost 0;"), INLAND.length() + 6);
        due("town not told", faultOf(INLAND + "run x z at 0 for 1 cost 0;"), INLAND.length() + 6);
        due("cost ahead of for", faultOf(INLAND + "run x y at 0 cost 1 for 1;"), INLAND.length() + 13);
        due("without ;", faultOf(INLAND + "run x y at 0 for 1 cost 0 run"), INLAND.length() + 26);
        StringBuilder links = new StringBuilder(INLAND);
        for (int i = 0; i < 16; i++) {
            links.append(i % 2 == 0 ? "run x y at1for1cost1;" : "sail x y at1for1cost1;");
        }
        due("16 links", faultOf(links.toString()), -1);
        due("17th link", faultOf(links + "run x y at1for1cost1;"), links.length());
        due("17th link, sail", faultOf(links + " sail ?"), links.length() + 1);
    }

    private static void maps() {
        promise("5");
        StampTales x = mapped(THERE_AND_BACK);
        due("bytes", x.count(6), 0);
        due("fault of the empty text", x.fault(), 0);
        x.man(0, 1, 4, 50);
        x.man(1, 1, 4, 50);
        x.paper(0, 1, 3);
        x.look(1, 1, 3, 4);
        x.leg(0, 9);
        feed(x, "land c in;town z of c");
        due("map with a fault", x.map(), -1);
        due("bytes", x.count(6), 21);
        due("lands", x.count(0), 2);
        due("traces", x.count(3), 1);
        due("traces", x.count(4), 1);
        due("legs", x.count(5), 1);
        due("paper", x.trace(0, 0, 1), 1);
        due("home", x.surely(0, 0), 1);
        feed(x, "land c in;town z of c minus 4;town w of c;town v of c;");
        due("map", x.map(), 3);
        int[] counts = {1, 3, 0, 0, 0, 0, 0};
        for (int i = 0; i < 7; i++) {
            due("count " + i, x.count(i), counts[i]);
        }
        for (int man = 0; man < 2; man++) {
            due("home", x.surely(man, 0), 0);
            due("end", x.may(man, 96), 1);
            due("ways", x.ways(man), 1);
        }
        // Without sleep the nightly run below can be taken; with sleep it could not.
        x = mapped(INLAND + "run x y at 0 for 8 cost 1;");
        x.man(0, 0, 1, 8);
        due("ways asleep", x.ways(0), 1);
        feed(x, INLAND + "run x y at 0 for 8 cost 1;");
        x.map();
        x.man(1, 0, 0, 8);
        due("ways by a new map", x.ways(0), 5);
        due("ways of the other", x.ways(1), 2);
    }

    private static void men() {
        promise("6");
        StampTales x = mapped(THERE_AND_BACK);
        for (int odd : ODD) {
            due("man " + odd, x.man(odd, 0, 0, 96), false);
            due("home " + odd, x.man(0, odd, 0, 96), false);
            due("sleep " + odd, x.man(0, 0, odd, 96), false);
            due("end " + odd, x.man(0, 0, 0, odd), false);
        }
        due("man 2", x.man(2, 0, 0, 96), false);
        due("man -1", x.man(-1, 0, 0, 96), false);
        due("home 2", x.man(0, 2, 0, 96), false);
        due("sleep 5", x.man(0, 0, 5, 96), false);
        due("sleep -1", x.man(0, 0, -1, 96), false);
        due("end 0", x.man(0, 0, 0, 0), false);
        due("end 96", x.man(0, 1, 4, 96), true);
        due("home", x.surely(0, 0), 1);
        due("refused", x.man(0, 0, 9, 5), false);
        due("home stays", x.surely(0, 0), 1);
        due("the other man", x.surely(1, 0), 0);
        due("end 1", x.man(0, 1, 0, 1), true);
        due("ways", x.ways(0), 1);
        due("may", x.may(0, 2), -1);
        x.paper(0, 1, 1);
        due("again", x.man(0, 0, 0, 1), true);
        due("traces stay", x.count(3), 1);
        due("ways", x.ways(0), 0);
    }

    private static void traces() {
        promise("7");
        StampTales x = mapped(THERE_AND_BACK);
        for (int odd : ODD) {
            due("stamp of " + odd, x.stamp(odd, 0, true, 0, 1), -1);
            due("stamp by " + odd, x.stamp(0, odd, true, 0, 1), -1);
            due("stamp from " + odd, x.stamp(0, 0, true, odd, 5), -1);
            due("stamp to " + odd, x.stamp(0, 0, true, -1, odd), -1);
            due("paper of " + odd, x.paper(odd, 0, 0), -1);
            due("paper by " + odd, x.paper(0, odd, 0), -1);
            due("paper at " + odd, x.paper(0, 0, odd), -1);
            due("look of " + odd, x.look(odd, 0, 0, 1), -1);
            due("look by " + odd, x.look(0, odd, 0, 1), -1);
            due("look from " + odd, x.look(0, 0, odd, 96), -1);
            due("look to " + odd, x.look(0, 0, 0, odd), -1);
            due("undo of " + odd, x.undo(odd), -1);
            due("doubt of " + odd, x.doubt(odd, 0, true), false);
        }
        due("stamp by a third land", x.stamp(0, 2, true, 0, 0), -1);
        due("days 1 to 0", x.stamp(0, 0, true, 1, 0), -1);
        due("days to 6", x.stamp(0, 0, true, 0, 6), -1);
        due("days from -2", x.stamp(0, 0, true, -2, 0), -1);
        due("traces", x.count(3), 0);
        for (int i = 0; i < 6; i++) {
            due("stamp " + i, x.stamp(0, i % 2, i % 2 == 0, -1, 5), i);
        }
        due("7th stamp", x.stamp(0, 0, true, 0, 0), -1);
        due("stamp of the other", x.stamp(1, 1, false, 5, 5), 0);
        promise("8");
        due("paper", x.paper(0, 1, 96), 6);
        due("paper at 97", x.paper(0, 0, 97), -1);
        due("paper at -1", x.paper(0, 0, -1), -1);
        due("paper in a third town", x.paper(0, 2, 0), -1);
        due("paper", x.paper(0, 0, 0), 7);
        due("9th trace", x.paper(0, 0, 0), -1);
        due("9th trace", x.look(0, 0, 0, 0), -1);
        promise("9");
        due("look 3 to 2", x.look(1, 0, 3, 2), -1);
        due("look to 97", x.look(1, 0, 3, 97), -1);
        due("look from -1", x.look(1, 0, -1, 3), -1);
        due("look", x.look(1, 0, 0, 96), 1);
        due("look", x.look(1, 1, 96, 96), 2);
        due("3rd look", x.look(1, 1, 0, 96), -1);
        due("paper behind", x.paper(1, 1, 5), 3);
        promise("26");
        due("traces of the first", x.count(3), 8);
        due("traces of the second", x.count(4), 4);
        doubts(x);
        undone(x);
        told(x);
    }

    private static void doubts(StampTales x) {
        promise("10");
        due("not doubted", x.doubt(0, 0, false), false);
        due("doubted", x.doubt(0, 0, true), true);
        due("doubted again", x.doubt(0, 0, true), false);
        due("trace", x.trace(0, 0, 5), 1);
        due("trace of the other", x.trace(1, 0, 5), 0);
        due("no more", x.doubt(0, 0, false), true);
        due("trace", x.trace(0, 0, 5), 0);
        due("trace 8", x.doubt(0, 8, true), false);
        due("trace 4 of the other", x.doubt(1, 4, true), false);
        due("trace -1", x.doubt(0, -1, true), false);
        due("man 2", x.doubt(2, 0, true), false);
        due("a doubted stamp is a stamp", x.doubt(0, 5, true), true);
    }

    private static void undone(StampTales x) {
        promise("11");
        due("undo", x.undo(0), 7);
        due("undo", x.undo(0), 6);
        due("a 7th stamp, one is doubted", x.stamp(0, 0, true, 0, 0), -1);
        due("undo of a doubted one", x.undo(0), 5);
        due("stamp", x.stamp(0, 1, true, 2, 3), 5);
        due("it is not doubted", x.trace(0, 5, 5), 0);
        due("undo", x.undo(2), -1);
        due("undo", x.undo(-1), -1);
        for (int left = 3; left >= 0; left--) {
            due("undo of the other", x.undo(1), left);
        }
        due("undo of none", x.undo(1), -1);
        due("traces", x.count(3), 6);
        due("look", x.look(1, 1, 2, 2), 0);
    }

    private static void told(StampTales x) {
        promise("12");
        int[][] links = {{0, 1, 9, 5, 7, 1}, {1, 0, 20, 5, 3, 1}};
        for (int what = -1; what < 8; what++) {
            for (int link = -1; link < 4; link++) {
                boolean is = link >= 0 && link < 2 && what >= 0 && what < 6;
                due("link " + link + " " + what, x.link(link, what), is ? links[link][what] : -1);
            }
        }
        StampTales sailing = mapped(INLAND + "sail y x at 95 for 48 cost 99;");
        int[] sail = {1, 0, 95, 48, 99, 0};
        for (int what = 0; what < 6; what++) {
            due("sail " + what, sailing.link(0, what), sail[what]);
        }
        promise("13");
        StampTales clocks = mapped("land a in;land b in;town x of b minus 12;town y of a plus 12;town z of b;");
        int[][] towns = {{1, -12}, {0, 12}, {1, 0}};
        for (int what = -1; what < 4; what++) {
            for (int town = -1; town < 5; town++) {
                boolean is = town >= 0 && town < 3 && what >= 0 && what < 2;
                due("town " + town + " " + what, clocks.town(town, what), is ? towns[town][what] : -99);
            }
        }
        promise("14");
        StampTales y = mapped(THERE_AND_BACK);
        y.stamp(0, 1, true, -1, 5);
        y.stamp(0, 0, false, 2, 3);
        y.paper(0, 1, 44);
        y.look(0, 1, 5, 90);
        y.doubt(0, 3, true);
        int[][] traces = {{0, 1, -1, 5, 1, 0}, {0, 0, 2, 3, 0, 0}, {1, 1, 44, 44, 0, 0}, {2, 1, 5, 90, 0, 1}};
        for (int what = -1; what < 8; what++) {
            for (int trace = -1; trace < 6; trace++) {
                boolean is = trace >= 0 && trace < 4 && what >= 0 && what < 6;
                due("trace " + trace + " " + what, y.trace(0, trace, what), is ? traces[trace][what] : -99);
            }
        }
        due("trace of the other", y.trace(1, 0, 0), -99);
        due("trace of a third", y.trace(2, 0, 0), -99);
    }

    /** Two towns with a link each way, hour by hour, have as many ways as the numbers of Fibonacci. */
    private static String fibonacci(int runs, int sails) {
        StringBuilder text = new StringBuilder("land a none;town x of a;town y of a;");
        for (int i = 0; i < runs; i++) {
            text.append(i % 2 == 0 ? "run x y at" : "run y x at").append(i).append("for1cost1;");
        }
        for (int i = 0; i < sails; i++) {
            text.append(i % 2 == 0 ? "sail x y at" : "sail y x at").append(84 + i).append("for1cost1;");
        }
        return text.toString();
    }

    private static void waysCounted() {
        promise("15");
        due("40 links", mapped(fibonacci(10, 0)).ways(0), 267914296);
        due("42 links", mapped(fibonacci(10, 2)).ways(1), 701408733);
        due("43 links", mapped(fibonacci(10, 3)).ways(0), 1000000000);
        due("64 links", mapped(fibonacci(16, 0)).ways(0), 1000000000);
        due("most links", mapped(fibonacci(16, 0)).extreme(0, 3), 64);
        StampTales x = mapped(INLAND + "sail x y at 5 for 3 cost 1;sail x y at 5 for 3 cost 1;");
        due("like links are two", x.ways(0), 3);
        due("man 2", x.ways(2), -1);
        due("man -1", x.ways(-1), -1);
        x.man(0, 0, 0, 8);
        due("comes at the end", x.ways(0), 3);
        x.man(0, 0, 0, 7);
        due("comes behind the end", x.ways(0), 1);
        x.man(0, 1, 0, 96);
        due("no link from there", x.ways(0), 1);
        due("a day's run comes each day", mapped(INLAND + "run x y at 23 for 1 cost 0;").ways(0), 5);
        due("a sail comes once", mapped(INLAND + "sail x y at 23 for 1 cost 0;").ways(0), 2);
        sleeping();
        stamping();
        seen();
    }

    private static void sleeping() {
        StampTales x = mapped(INLAND + "sail x y at 0 for 4 cost 0;sail x y at 0 for 5 cost 0;sail x y at 2 for 24 cost 0;");
        x.man(0, 0, 4, 8);
        due("4 hours left", x.ways(0), 2);
        x.man(0, 0, 3, 8);
        due("3 hours needed", x.ways(0), 3);
        x.man(0, 0, 4, 7);
        due("the night is not over", x.ways(0), 3);
        x.man(0, 0, 2, 31);
        due("two ahead in one night, the other not over", x.ways(0), 4);
        x.man(0, 0, 3, 31);
        due("three in the first night", x.ways(0), 3);
        StampTales whole = mapped(INLAND + "sail x y at 23 for 9 cost 0;sail x y at 12 for 48 cost 0;sail x y at 8 for 16 cost 0;");
        due("awake", whole.ways(0), 4);
        whole.man(0, 0, 1, 96);
        due("a night lost", whole.ways(0), 2);
        StampTales leaving = mapped(INLAND + "sail x y at 4 for 4 cost 0;sail x y at 3 for 5 cost 0;");
        leaving.man(0, 0, 4, 96);
        due("slept ahead of it", leaving.ways(0), 2);
    }

    private static void stamping() {
        StampTales x = mapped("land a out;land b in;town x of a minus 12;town y of b plus 12;town z of b;"
            + "sail x y at 11 for 1 cost 0;sail y z at 20 for 1 cost 0;sail z x at 40 for 5 cost 0;");
        due("without stamps", x.ways(0), 1);
        x.stamp(0, 0, true, -1, -1);
        due("one stamp of two", x.ways(0), 0);
        x.stamp(0, 1, false, 1, 1);
        due("days by clocks, no stamp inside a land, none where a land stamps the other way", x.ways(0), 3);
        x.undo(0);
        x.stamp(0, 1, false, 0, 0);
        due("a day too early", x.ways(0), 0);
        x.undo(0);
        x.stamp(0, 1, true, 1, 1);
        due("out for in", x.ways(0), 0);
        x.undo(0);
        x.undo(0);
        x.stamp(0, 1, false, -1, 5);
        x.stamp(0, 0, true, -1, 5);
        due("in the wrong order", x.ways(0), 0);
        x.doubt(0, 0, true);
        x.doubt(0, 1, true);
        due("doubted ones count for nothing", x.ways(0), 1);
        StampTales late = mapped("land a none;land b in;town x of a;town y of b plus 12;sail x y at 95 for 1 cost 0;");
        late.stamp(0, 1, false, 4, 4);
        due("day 4 by the clock", late.ways(0), 1);
    }

    private static void seen() {
        StampTales x = mapped(INLAND + "sail x y at 10 for 5 cost 0;");
        x.paper(0, 0, 10);
        due("there as it leaves", x.ways(0), 2);
        x.paper(0, 0, 11);
        due("under way behind it", x.ways(0), 1);
        x.undo(0);
        x.paper(0, 1, 15);
        due("there as it comes", x.ways(0), 1);
        x.undo(0);
        x.paper(0, 1, 14);
        due("under way ahead of it", x.ways(0), 0);
        x.man(0, 0, 0, 13);
        due("a paper behind the end", x.ways(0), 1);
        x.man(0, 0, 0, 96);
        x.undo(0);
        x.look(0, 1, 3, 15);
        due("seen at the second hour", x.ways(0), 1);
        x.undo(0);
        x.look(0, 1, 11, 14);
        due("not seen under way", x.ways(0), 0);
        x.undo(0);
        x.look(0, 0, 10, 20);
        due("seen at the first hour", x.ways(0), 2);
        x.look(0, 0, 11, 90);
        due("seen twice", x.ways(0), 1);
        x.man(0, 0, 0, 10);
        due("no hour till the end", x.ways(0), 0);
        x.look(1, 0, 5, 5);
        x.look(1, 0, 5, 5);
        due("two at the same hour", x.ways(1), 2);
    }

    private static void places() {
        promise("16");
        StampTales x = mapped(INLAND + "sail x y at 10 for 5 cost 0;");
        int[] hours = {0, 10, 11, 14, 15, 96};
        int[] may = {1, 1, 257, 257, 3, 3};
        int[] surely = {0, 0, -1, -1, -1, -1};
        for (int i = 0; i < 6; i++) {
            due("may " + hours[i], x.may(0, hours[i]), may[i]);
            promise("17");
            due("surely " + hours[i], x.surely(0, hours[i]), surely[i]);
            promise("16");
        }
        for (int odd : new int[] {-1, 97, Integer.MAX_VALUE, Integer.MIN_VALUE}) {
            due("may " + odd, x.may(0, odd), -1);
            due("may of " + odd, x.may(odd, 0), -1);
            promise("17");
            due("surely " + odd, x.surely(0, odd), -1);
            due("surely of " + odd, x.surely(odd, 0), -1);
            promise("16");
        }
        x.man(0, 0, 0, 15);
        due("may at the end", x.may(0, 15), 3);
        due("may behind the end", x.may(0, 16), -1);
        x.paper(0, 1, 15);
        due("may", x.may(0, 12), 256);
        promise("17");
        due("surely under way is no town", x.surely(0, 12), -1);
        due("surely", x.surely(0, 15), 1);
        due("surely behind the end", x.surely(0, 16), -1);
        x.paper(0, 1, 14);
        due("no way", x.surely(0, 0), -1);
        promise("16");
        due("no way", x.may(0, 0), 0);
    }

    private static void extremes() {
        promise("18");
        StampTales x = mapped("land a none;town x of a;town y of a;town z of a;sail x z at 5 for 20 cost 50;"
            + "sail x y at 5 for 4 cost 60;sail y z at 9 for 16 cost 20;sail y x at 40 for 1 cost 1;sail z y at 30 for 2 cost 9;");
        x.paper(0, 2, 25);
        int[] want = {50, 90, 1, 4, -1, -1};
        for (int what = 0; what < 6; what++) {
            due("extreme " + what, x.extreme(0, what), want[what]);
        }
        due("extreme -1", x.extreme(0, -1), -1);
        due("extreme most", x.extreme(0, Integer.MAX_VALUE), -1);
        due("extreme of 2", x.extreme(2, 0), -1);
        due("extreme of -1", x.extreme(-1, 0), -1);
        x.paper(0, 1, 25);
        for (int what = 0; what < 4; what++) {
            due("no way " + what, x.extreme(0, what), -1);
        }
        promise("19");
        x.undo(0);
        due("tale", x.tale(0, -1), 1);
        due("tale 0", x.tale(0, 0), 5);
        due("tale 1", x.tale(0, 1), -1);
        x.paper(0, 1, 9);
        due("tale", x.tale(0, -1), 2);
        due("tale 0", x.tale(0, 0), 105);
        due("tale 1", x.tale(0, 1), 209);
        due("tale 2", x.tale(0, 2), -1);
        due("tale -2", x.tale(0, -2), -1);
        due("tale most", x.tale(0, Integer.MAX_VALUE), -1);
        due("tale least", x.tale(0, Integer.MIN_VALUE), -1);
        due("tale of 2", x.tale(2, -1), -1);
        x.paper(0, 2, 9);
        due("no tale", x.tale(0, -1), -1);
        due("no tale 0", x.tale(0, 0), -1);
        // All cost alike: the later leaving stays longer, and of those at one hour the less link is ahead.
        StampTales like = mapped(INLAND + "sail x y at 4 for 2 cost 3;sail x y at 9 for 2 cost 3;sail x y at 9 for 1 cost 3;"
            + "sail x y at 9 for 1 cost 4;");
        like.paper(0, 1, 20);
        due("tale 0 of like ones", like.tale(0, 0), 109);
        due("tale of like ones", like.tale(0, -1), 1);
        due("tale of one who stays", like.tale(1, -1), 0);
        due("tale 0 of one who stays", like.tale(1, 0), -1);
    }

    private static void doubting() {
        promise("20");
        StampTales x = mapped(THERE_AND_BACK);
        due("no trace", x.toDoubt(0), 0);
        x.paper(0, 0, 1);
        x.paper(0, 1, 1);
        due("the least bits of two papers", x.toDoubt(0), 2);
        x.paper(0, 1, 2);
        due("both that are elsewhere", x.toDoubt(0), 6);
        x.doubt(0, 1, true);
        due("besides the doubted one", x.toDoubt(0), 4);
        x.doubt(0, 2, true);
        due("nothing more", x.toDoubt(0), 0);
        due("man 2", x.toDoubt(2), -1);
        due("man -1", x.toDoubt(-1), -1);
        // The stamps of one crossing with a wrong one told between them.
        x.stamp(1, 0, true, 0, 0);
        x.stamp(1, 0, false, 0, 0);
        x.stamp(1, 1, false, 0, 0);
        due("the stamp between", x.toDoubt(1), 2);
        x.stamp(1, 0, true, 0, 0);
        due("and the one behind", x.toDoubt(1), 10);
        x.undo(1);
        x.undo(1);
        due("fewest, for only staying leaves no stamps", x.toDoubt(1), 3);
        x.look(1, 1, 14, 96);
        due("all of them", x.toDoubt(1), 7);
        doubtingPapers();
        promise("21");
        due("no trace gives it", x.away(1), -1);
        due("doubted ones do not count", x.away(0), -1);
        due("man 2", x.away(2), -1);
        due("man -1", x.away(-1), -1);
        StampTales y = mapped(INLAND + "sail x y at 10 for 5 cost 0;sail x y at 12 for 5 cost 0;sail y x at 30 for 1 cost 0;");
        due("without traces", y.away(0), -1);
        y.paper(0, 0, 11);
        due("one paper", y.away(0), 0);
        y.paper(0, 0, 11);
        due("two like papers", y.away(0), -1);
        y.undo(0);
        y.paper(0, 1, 29);
        due("more without the first", y.away(0), 0);
        y.undo(0);
        y.look(0, 1, 0, 96);
        due("ways", y.ways(0), 2);
        due("like without either", y.away(0), 0);
        y.doubt(0, 0, true);
        due("the one not doubted", y.away(0), 1);
    }

    private static void doubtingPapers() {
        StampTales x = mapped(INLAND + "sail x y at 10 for 5 cost 0;");
        x.paper(0, 1, 3);
        x.paper(0, 1, 3);
        due("two of the same hour", x.toDoubt(0), 3);
        for (int hour = 20; hour < 50; hour += 10) {
            x.paper(1, 1, hour);
        }
        x.paper(1, 0, 12);
        x.paper(1, 0, 13);
        due("two while he is under way", x.toDoubt(1), 24);
        x.look(1, 0, 30, 40);
        due("and a look", x.toDoubt(1), 7);
    }

    private static void meeting() {
        promise("22");
        StampTales x = mapped(THERE_AND_BACK);
        x.man(1, 1, 0, 50);
        x.stamp(0, 0, true, 0, 0);
        x.stamp(0, 1, false, 0, 0);
        due("at first", x.met(0, false), 0);
        due("under way", x.met(12, false), 0);
        due("there", x.met(14, false), 2);
        due("surely", x.met(14, true), 2);
        due("the other stays for he has no stamps", x.met(50, true), 2);
        due("behind an end", x.met(51, false), -1);
        due("behind an end", x.met(51, true), -1);
        for (int odd : ODD) {
            due("hour " + odd, x.met(odd, false), -1);
        }
        x.man(1, 1, 0, 96);
        due("at 96", x.met(96, false), 2);
        x.paper(1, 0, 5);
        due("no way of the other", x.met(14, false), 0);
        due("no way of the other", x.met(14, true), 0);
        StampTales y = mapped(INLAND + "sail x y at 10 for 5 cost 0;");
        due("both may be in both", y.met(20, false), 3);
        due("neither surely", y.met(20, true), 0);
        due("both may be under way", y.met(12, false), 1);
        y.paper(0, 1, 20);
        y.paper(1, 1, 20);
        due("both surely under way", y.met(12, true), 0);
        due("both surely under way", y.met(12, false), 0);
        due("both surely", y.met(20, true), 2);
    }

    private static void legs() {
        promise("23");
        StampTales x = mapped(THERE_AND_BACK);
        for (int odd : ODD) {
            due("link " + odd, x.leg(odd, 0), -1);
            due("hour " + odd, x.leg(0, odd), -1);
        }
        due("link 2", x.leg(2, 0), -1);
        due("link -1", x.leg(-1, 0), -1);
        due("hour -1", x.leg(0, -1), -1);
        for (int i = 1; i <= 20; i++) {
            due("leg " + i, x.leg(i % 2, i == 20 ? 96 : 0), i);
        }
        due("21st leg", x.leg(0, 9), -1);
        promise("26");
        due("legs", x.count(5), 20);
        promise("24");
        due("forget", x.forget(), 20);
        due("forget again", x.forget(), 0);
        due("legs", x.count(5), 0);
        promise("23");
        due("leg behind", x.leg(0, 9), 1);
    }

    private static void bars() {
        promise("25");
        StampTales x = mapped(THERE_AND_BACK + "sail x y at 30 for 2 cost 0;run x y at 0 for 5 cost 0;");
        due("man 2", x.barred(2), -1);
        due("man -1", x.barred(-1), -1);
        due("nothing told", x.barred(0), 0);
        tell(x, 0, 10);
        due("it doesn't leave then", x.barred(0), 100);
        tell(x, 1, 20);
        due("not in that town", x.barred(0), 100);
        x.man(1, 1, 0, 96);
        due("the other is", x.barred(1), 300);
        tell(x, 2, 54);
        due("a sail leaves once", x.barred(0), 100);
        for (int i = 0; i < 6; i++) {
            boolean isOut = i % 2 == 0;
            x.stamp(0, i % 4 == 0 || i % 4 == 3 ? 0 : 1, isOut, 0, 1);
        }
        x.forget();
        due("all lack", x.barred(0), 300);
        tell(x, 0, 9, 1, 20);
        due("the fifth lacks", x.barred(0), 304);
        tell(x, 0, 9, 1, 20, 0, 33);
        due("nothing", x.barred(0), 0);
        tell(x, 0, 9, 1, 20, 0, 33, 1, 44);
        due("one too much", x.barred(0), 306);
        tell(x, 0, 9, 1, 20, 0, 57);
        due("a day too late", x.barred(0), 304);
        x.doubt(0, 1, true);
        due("counted among those not doubted", x.barred(0), 301);
        x.doubt(0, 1, false);
        tell(x, 0, 9, 0, 9);
        due("the second is not there", x.barred(0), 101);
        tell(x, 0, 9, 1, 20, 2, 24);
        due("the third: he is under way", x.barred(0), 102);
        tell(x, 0, 33, 0, 9);
        due("told backwards", x.barred(0), 101);
        tell(x, 0, 9, 1, 20, 0, 33);
        x.man(0, 0, 0, 38);
        due("comes at the end", x.barred(0), 0);
        x.man(0, 0, 0, 37);
        due("comes behind the end", x.barred(0), 102);
        barsByTraces();
    }

    private static void barsByTraces() {
        StampTales x = mapped(INLAND + "run x y at 1 for 5 cost 7;run y x at 22 for 6 cost 3;");
        tell(x, 0, 1);
        x.man(0, 0, 3, 96);
        due("slept enough", x.barred(0), 0);
        x.man(0, 0, 4, 96);
        due("too little on day 0", x.barred(0), 200);
        x.man(0, 0, 4, 7);
        due("the night is not over", x.barred(0), 0);
        x.man(0, 0, 4, 8);
        due("the night is over at the end", x.barred(0), 200);
        x.man(0, 0, 3, 8);
        x.paper(0, 0, 8);
        due("a paper at the end", x.barred(0), 400);
        x.man(0, 0, 3, 7);
        due("a paper behind the end", x.barred(0), 0);
        x.undo(0);
        tell(x, 0, 1, 1, 22, 0, 49);
        x.man(0, 0, 3, 96);
        due("enough", x.barred(0), 0);
        tell(x, 0, 1, 1, 70);
        due("enough", x.barred(0), 0);
        tell(x, 0, 1, 1, 22, 0, 25);
        due("the leg is ahead of sleep", x.barred(0), 102);
        StampTales y = mapped(INLAND + "run x y at 1 for 7 cost 7;run y x at 22 for 6 cost 3;");
        y.man(0, 0, 2, 96);
        y.man(1, 1, 2, 96);
        y.look(0, 1, 40, 50);
        y.paper(0, 0, 90);
        y.paper(0, 1, 50);
        tell(y, 0, 25);
        due("day 1", y.barred(0), 201);
        y.man(0, 0, 1, 96);
        due("a paper is ahead of a look", y.barred(0), 401);
        y.doubt(0, 1, true);
        due("it fits", y.barred(0), 0);
        y.forget();
        due("the other paper", y.barred(0), 402);
        y.doubt(0, 2, true);
        due("the look", y.barred(0), 500);
        y.look(0, 1, 50, 60);
        due("the first look", y.barred(0), 500);
        y.doubt(0, 0, true);
        due("the second look", y.barred(0), 503);
        y.man(0, 0, 0, 49);
        due("no hour till the end", y.barred(0), 503);
        y.doubt(0, 2, false);
        y.doubt(0, 3, true);
        due("a paper behind the end", y.barred(0), 0);
        due("the other", y.barred(1), 0);
        tell(y, 1, 22);
        due("sleeps 4 hours in the second night", y.barred(1), 0);
        y.paper(1, 1, 22);
        y.paper(1, 0, 28);
        due("there as it leaves and comes", y.barred(1), 0);
        y.paper(1, 1, 23);
        due("under way", y.barred(1), 402);
    }

    private static void counts() {
        promise("26");
        StampTales x = mapped(THERE_AND_BACK);
        x.feed(0, 0, 0, 0, 0);
        x.paper(0, 0, 0);
        x.paper(1, 0, 0);
        x.paper(1, 0, 0);
        x.leg(0, 9);
        x.leg(0, 9);
        x.leg(0, 9);
        int[] want = {2, 2, 2, 1, 2, 3, 20, -1};
        for (int what = 0; what < 8; what++) {
            due("count " + what, x.count(what), want[what]);
        }
        due("count -1", x.count(-1), -1);
        for (int odd : ODD) {
            due("count " + odd, x.count(odd), -1);
        }
    }

    public static void main(String[] args) {
        newObject();
        feedAndEnd();
        faultsOfCutTexts();
        faultsOfLandsAndTowns();
        faultsOfLinks();
        maps();
        men();
        traces();
        waysCounted();
        places();
        extremes();
        doubting();
        meeting();
        legs();
        bars();
        counts();
        report("PromisesTest", "");
    }
}
