/**
 * The edges that the document names for the text, the MAP and its FAULT (part 1 of Terms, promises 1 to 5, 12 and 13),
 * sentence by sentence.
 */
public final class MapEdgesTest extends Checks {
    private static final String LAND = "land a in;";
    private static final String ONE = "land a in;town x of a;";
    private static final String TWO = ONE + "town y of a;";
    private static final String[] KEPT = {"land", "town", "in", "out", "both", "none", "of", "plus", "minus", "run",
        "sail", "at", "for", "cost"};

    /** The FAULT of a text that goes on behind the two towns x and y, counted from there. */
    private static int behindTwo(String more) {
        int fault = faultOf(TWO + more);
        return fault < 0 ? fault : fault - TWO.length();
    }

    private static String filled(String text, int length) {
        StringBuilder out = new StringBuilder(text);
        while (out.length() < length) {
            out.append(' ');
        }
        return out.toString();
    }

    private static void atMost500() {
        sentence("Terms 1", "A MAP is a text of at most 500 bytes.");
        StampTales x = new StampTales();
        feed(x, filled(ONE, 500));
        due("bytes", x.count(6), 500);
        due("500 bytes, blanks at last", x.fault(), -1);
        due("map", x.map(), 1);
        feed(x, filled(LAND + "town x of a", 499) + ";");
        due("500 bytes, the last of them needed", x.fault(), -1);
        due("map", x.map(), 1);
        feed(x, filled(ONE, 499) + ";");
        due("the 500th byte is the fault", x.fault(), 499);
        feed(x, filled(ONE + "town", 500));
        due("500 bytes that end too early", x.fault(), 500);
        feed(x, filled(LAND, 500));
        due("500 bytes without a town", x.fault(), 500);
        feed(x, filled(ONE, 496) + "town");
        due("500 bytes up to a letter", x.fault(), 500);
        feed(x, filled(LAND + "town x of a plus", 499) + "7");
        due("500 bytes up to a digit", x.fault(), 500);
    }

    private static boolean isLetter(int b) {
        return b >= 'a' && b <= 'z';
    }

    private static boolean isDigit(int b) {
        return b >= '0' && b <= '9';
    }

    private static boolean isBetween(int b) {
        return b == 32 || b == 10;
    }

    private static void everyByte() {
        sentence("Terms 1", "TOKENS: words of small letters, numbers of digits, as long as can be, and ; with any "
            + "blanks (32) and line ends (10) between.");
        for (int b = 0; b < 256; b++) {
            char c = (char) b;
            int name = isLetter(b) && b != 'a' && b != 'x' && b != 'y' ? -1 : isBetween(b) ? 7 : 5;
            due("byte " + b + " as a name", behindTwo("town " + c + " of a;"), name);
            boolean joins = isLetter(b) || isBetween(b);
            due("byte " + b + " behind a name", behindTwo("town q" + c + " of a;"), joins ? -1 : 6);
            due("byte " + b + " ahead of a name", behindTwo("town " + c + "q of a;"), joins ? -1 : 5);
            int number = isBetween(b) || b >= '0' && b <= '2' ? -1 : isDigit(b) ? 17 : b == ';' ? 19 : 18;
            due("byte " + b + " behind a digit", behindTwo("town q of a plus 1" + c + ";"), number);
            due("byte " + b + " behind all", behindTwo(String.valueOf(c)), isBetween(b) ? -1 : 0);
        }
    }

    private static void longAsCanBe() {
        sentence("Terms 1", "as long as can be");
        due("a word that begins with a kept one", faultOf("landa in;"), 0);
        due("a kept word and a name in one", behindTwo("town q ofa;"), 7);
        due("a number told in two", behindTwo("town q of a plus 1 2;"), 19);
        due("a word told in two", behindTwo("to wn q of a;"), 0);
        due("no blank between a word and a number", behindTwo("run x y at1for2cost3;"), -1);
        due("no blank between a number and a word", behindTwo("run x y at 1for 2cost 3;"), -1);
        due("three digits are one number", behindTwo("run x y at 123 for 1 cost 1;"), 11);
        sentence("Terms 1", "with any blanks (32) and line ends (10) between");
        due("none where they need not be", faultOf("land a in;town x of a;run"), 25);
        due("many of both", faultOf("  \n\n land \n a\n\nin  ; \n\n town\nx\n of \n a \n ;\n \n"), -1);
    }

    private static void anyOrder() {
        sentence("Terms 1", "It is any number of, in any order:");
        StampTales x = mapped("land a in;town x of a;land b out;town y of b;run x y at 3 for 4 cost 5;land c both;"
            + "town z of c;sail z x at 77 for 6 cost 7;town w of a;run w z at 1 for 2 cost 3;land d none;");
        int[] counts = {4, 4, 3};
        for (int i = 0; i < 3; i++) {
            due("count " + i, x.count(i), counts[i]);
        }
        int[] lands = {0, 1, 2, 0};
        for (int i = 0; i < 4; i++) {
            due("land of town " + i, x.town(i, 0), lands[i]);
        }
        int[][] links = {{0, 1, 3, 4, 5, 1}, {2, 0, 77, 6, 7, 0}, {3, 2, 1, 2, 3, 1}};
        for (int i = 0; i < 18; i++) {
            due("link " + i / 6 + " " + i % 6, x.link(i / 6, i % 6), links[i / 6][i % 6]);
        }
        due("one land and one town are enough", mapped(ONE).count(1), 1);
    }

    private static void limits() {
        sentence("Terms 1", "HOW: in, out, both or none: at which crossings it stamps");
        String[] wrong = {"inn", "i", "ou", "bot", "non", "a", "of", "land", "1", ";"};
        for (String how : "in out both none".split(" ")) {
            due(how, faultOf("land a " + how + ";town x of a;"), -1);
        }
        for (String how : wrong) {
            due(how, faultOf("land a " + how + " ;town x of a;"), 7);
        }
        sentence("Terms 1", "at most 4 LANDS, numbers as they come");
        String four = "land d in;land c in;land b in;land a in;";
        StampTales x = mapped(four + "town x of a;town y of b;town z of c;town w of d;");
        due("lands", x.count(0), 4);
        for (int i = 0; i < 4; i++) {
            due("land of town " + i, x.town(i, 0), 3 - i);
        }
        sentence("Terms 1", "at most 8 TOWNS, numbers as they come");
        StringBuilder eight = new StringBuilder("land a in;land b in;");
        for (int i = 0; i < 8; i++) {
            eight.append("town ").append((char) ('z' - i)).append(i % 3 == 0 ? " of b" : " of a").append(" plus ")
                .append(i).append(";");
        }
        x = mapped(eight + "run s z at 1 for 1 cost 1;");
        due("towns", x.count(1), 8);
        for (int i = 0; i < 8; i++) {
            due("land of town " + i, x.town(i, 0), i % 3 == 0 ? 1 : 0);
            due("clock of town " + i, x.town(i, 1), i);
        }
        due("from the last one", x.link(0, 0), 7);
        due("to the first one", x.link(0, 1), 0);
        sentence("Terms 1", "at most 16 LINKS of both kinds, numbers as they come");
        x = mapped(TWO + links(16));
        due("links", x.count(2), 16);
        for (int i = 0; i < 16; i++) {
            due("hour of link " + i, x.link(i, 2), i);
            due("link " + i + " leaves each day", x.link(i, 5), i % 2);
        }
        sentence("Terms 1", "a 5th LAND, 9th TOWN, 17th LINK at its first word");
        due("5th land", faultOf(four + "land"), 40);
        due("5th land, with a wrong name", faultOf(four + " land 7"), 41);
        due("5th land behind a town", faultOf(four + "town x of a;land e in;"), 52);
        due("9th town", faultOf(eight + "\ntown a"), eight.length() + 1);
        due("9th town, whole", faultOf(eight + "town q of a;"), eight.length());
        for (String more : new String[] {"run", "sail", "run x x", "sail x y at 1 for 1 cost 1;"}) {
            due("17th link: " + more, behindTwo(links(16) + more), links(16).length());
        }
        due("a town behind the 16th link", behindTwo(links(16) + "town q of a;"), -1);
    }

    private static String links(int many) {
        StringBuilder out = new StringBuilder();
        for (int i = 0; i < many; i++) {
            out.append(i % 2 == 0 ? "sail x y at " : "run y x at ").append(i).append("for1cost1;");
        }
        return out.toString();
    }

    private static void clocks() {
        sentence("Terms 1", "its CLOCK is Z hours ahead or behind, 0 .. 12, 0 without");
        String[] told = {"", "plus 0", "minus 0", "plus 1", "minus 1", "plus 12", "minus 12", "plus 0000000000012"};
        int[] want = {0, 0, 0, 1, -1, 12, -12, 12};
        for (int i = 0; i < told.length; i++) {
            due(told[i], mapped(LAND + "town x of a " + told[i] + ";").town(0, 1), want[i]);
        }
        for (String no : "13 20 112 120 4294967296 4294967297 18446744073709551617 plus".split(" ")) {
            due("plus " + no, behindTwo("town q of a plus " + no + ";"), 17);
            due("minus " + no, behindTwo("town q of a minus " + no + ";"), 18);
        }
        due("plus without a number", behindTwo("town q of a plus;"), 16);
        due("a number without plus", behindTwo("town q of a 3;"), 12);
        sentence("Terms 1", "of a LAND told ahead");
        due("told behind", faultOf("town x of a;land a in;"), 10);
        due("told ahead", faultOf("land a in;town x of a;"), -1);
        due("not at all", faultOf(LAND + "town x of b;"), 20);
        due("its own name", faultOf(LAND + "town x of x;"), 20);
    }

    private static void linkNumbers() {
        sentence("Terms 1", "a LINK from a TOWN to another one, told ahead; it leaves each day at hour H, 0 .. 23");
        due("run from a town not told", behindTwo("run q x at 1 for 1 cost 1;town q of a;"), 4);
        due("run to a town not told", behindTwo("run x q at 1 for 1 cost 1;town q of a;"), 6);
        numbers("run x y at ", " for 1 cost 1;", 0, 23);
        sentence("Terms 1", "it leaves once, at hour H, 0 .. 95; D 1 .. 48 hours, P 0 .. 99");
        due("sail from a town not told", behindTwo("sail q x at 1 for 1 cost 1;town q of a;"), 5);
        due("sail to a town not told", behindTwo("sail x q at 1 for 1 cost 1;town q of a;"), 7);
        numbers("sail x y at ", " for 1 cost 1;", 0, 95);
        for (String kind : new String[] {"run x y at 0", "sail x y at 95"}) {
            numbers(kind + " for ", " cost 1;", 1, 48);
            numbers(kind + " for 1 cost ", ";", 0, 99);
        }
    }

    /** Of numbers between two texts, those from the least to the most can be, and no others. */
    private static void numbers(String ahead, String behind, int least, int most) {
        for (int n = 0; n <= 130; n++) {
            due(ahead + n, behindTwo(ahead + n + behind), n >= least && n <= most ? -1 : ahead.length());
        }
        String[] large = {"256", "1000", "65536", "2147483648", "4294967296", "4294967297", "18446744073709551617"};
        for (String n : large) {
            due(ahead + n, behindTwo(ahead + n + behind), ahead.length());
        }
        due(ahead + "with noughts", behindTwo(ahead + "000000000000000" + most + behind), -1);
    }

    private static void names() {
        sentence("Terms 1", "NAMES N are words of at most 8 letters but: land town in out both none of plus minus "
            + "run sail at for cost; all of LANDS and TOWNS are unlike.");
        due("8 letters of a land", faultOf("land zzzzzzzz in;town x of zzzzzzzz;"), -1);
        due("9 letters of a land", faultOf("land zzzzzzzzz in;"), 5);
        due("8 letters of a town", behindTwo("town zzzzzzzz of a;run zzzzzzzz x at 1 for 1 cost 1;"), -1);
        due("9 letters of a town", behindTwo("town zzzzzzzzz of a;"), 5);
        due("300 letters", faultOf("land " + "a".repeat(300) + " in;"), 5);
        for (String kept : KEPT) {
            due("land " + kept, faultOf("land " + kept + " in;"), 5);
            due("town " + kept, behindTwo("town " + kept + " of a;"), 5);
            due("of " + kept, behindTwo("town q of " + kept + ";"), 10);
            due("run " + kept, behindTwo("run " + kept + " x at 1 for 1 cost 1;"), 4);
            due("run x " + kept, behindTwo("run x " + kept + " at 1 for 1 cost 1;"), 6);
            String longer = kept + "s";
            String shorter = kept.substring(1);
            due("land " + longer, faultOf("land " + longer + " in;town x of " + longer + ";"), -1);
            due("land " + shorter, faultOf("land " + shorter + " in;town a of " + shorter + ";"), -1);
        }
        due("unlike in the last of 8 letters", faultOf("land abcdefgh in;land abcdefgi in;"
            + "town abcdefgj of abcdefgi;"), -1);
        due("unlike in the first of 8 letters", faultOf("land abcdefgh in;land bbcdefgh in;"
            + "town cbcdefgh of bbcdefgh;"), -1);
        due("one letter more", faultOf("land a in;land aa in;town aaa of aa;"), -1);
        String[] like = "a b z aa ab ba bb az za zz aab aba baa abc cba zaa".split(" ");
        for (String one : like) {
            for (String other : like) {
                String first = "land " + one + " in;";
                int want = one.equals(other) ? first.length() + 5 : -1;
                due(one + " and " + other, faultOf(first + "land " + other + " in;town t of " + other + ";"), want);
            }
        }
        due("9 letters, of which 8 are a land", faultOf("land abcdefgh in;town x of abcdefghi;"), 27);
        due("9 letters, of which the last 8 are a land", faultOf("land abcdefgh in;town x of zabcdefgh;"), 27);
    }

    private static void forms() {
        sentence("Terms 1", "land N HOW ;");
        formIs("land q both ;");
        sentence("Terms 1", "town N of N ; or town N of N plus Z ; or town N of N minus Z ;");
        formIs("town q of a ;");
        formIs("town q of a plus 3 ;");
        formIs("town q of a minus 3 ;");
        sentence("Terms 1", "run N N at H for D cost P ;");
        formIs("run x y at 4 for 5 cost 6 ;");
        sentence("Terms 1", "or sail N N at H for D cost P ;");
        formIs("sail x y at 4 for 5 cost 6 ;");
    }

    /** A form stands as it is; but none of its tokens may lack, nor stand twice. */
    private static void formIs(String form) {
        due(form, behindTwo(form), -1);
        due(form + " twice", behindTwo(form + form.replace('q', 'p')), -1);
        int place = 0;
        for (String token : form.split(" ")) {
            int next = place + token.length();
            String twice = form.substring(0, next) + " " + token + form.substring(next);
            due(twice, behindTwo(twice), next + 1);
            String without = form.substring(0, place) + form.substring(Math.min(next + 1, form.length()));
            due(without + " has a fault, not ahead of what lacks", behindTwo(without) >= place, true);
            place = next + 1;
        }
    }

    private static void faultOfEachToken() {
        sentence("Terms 1", "The FAULT is the place (from 0 on) of the first byte of the first TOKEN that can't "
            + "stand there");
        String text = "land a in ; town x of a plus 3 ; town y of a ; run x y at 4 for 5 cost 6 ;"
            + " sail y x at 7 for 8 cost 9 ;";
        String[] tokens = text.split(" ");
        int place = 0;
        for (int i = 0; i < tokens.length; i++) {
            boolean isNumber = Character.isDigit(tokens[i].charAt(0));
            boolean mayEnd = tokens[i].equals(";") || tokens[i].equals("plus");
            String[] strange = {isNumber ? "seven" : "7", mayEnd ? "cost" : ";", "?", "zzzzzzzzz"};
            for (String other : strange) {
                String[] row = tokens.clone();
                row[i] = other;
                due("token " + i + " is " + other, faultOf(String.join(" ", row)), place);
                row[tokens.length - 1] = "?";
                due("token " + i + " is " + other + ", with another fault behind", faultOf(String.join(" ", row)),
                    place);
            }
            boolean isWhole = i == 11 || i == 16 || i == 26;
            due("all ahead of token " + i, faultOf(text.substring(0, place)), isWhole ? -1 : place);
            place += tokens[i].length() + 1;
        }
        due("all of it", faultOf(text), -1);
        due("; at first", faultOf(";" + ONE), 0);
        due("; twice", faultOf(ONE + ";"), 22);
    }

    private static void faultOfNames() {
        sentence("Terms 1", "(also: a number that can't be, a NAME that is told already, or isn't (a TOWN's where a "
            + "LAND must be, and the other way round), the same TOWN twice in a LINK;");
        due("a clock that can't be", behindTwo("town q of a plus 13;"), 17);
        due("an hour that can't be", behindTwo("run x y at 24 for 49 cost 100;"), 11);
        due("a time that can't be", behindTwo("run x y at 23 for 49 cost 100;"), 18);
        due("a cost that can't be", behindTwo("run x y at 23 for 48 cost 100;"), 26);
        due("a land like a land", faultOf("land a in;land a out;"), 15);
        due("a land like a town", behindTwo("land x in;"), 5);
        due("a town like a land", behindTwo("town a of a;"), 5);
        due("a town like a town", behindTwo("town y of a;"), 5);
        due("the first and the last land", faultOf("land a in;land b in;land c in;land a in;"), 35);
        due("a town's where a land must be", behindTwo("town q of x;"), 10);
        due("a land's where the first town must be", behindTwo("run a x at 1 for 1 cost 1;"), 4);
        due("a land's where the second town must be", behindTwo("run x a at 1 for 1 cost 1;"), 6);
        due("the same town twice in a run", behindTwo("run y y at 1 for 1 cost 1;"), 6);
        due("the same town twice in a sail", behindTwo("sail x x at 1 for 1 cost 1;"), 7);
        due("a link told twice is two", behindTwo("run x y at 1 for 1 cost 1;run x y at 1 for 1 cost 1;"), -1);
    }

    private static void faultOfBytes() {
        sentence("Terms 1", "or of a byte that begins no TOKEN, if that is ahead");
        due("ahead of a wrong token", faultOf("land ? 7"), 5);
        due("behind a wrong token", faultOf("land 7 ?"), 5);
        due("close behind a good word", faultOf("land?"), 4);
        due("inside of a word", faultOf("la?nd a in;"), 0);
        due("inside of a number", behindTwo("run x y at 1?2 for 1 cost 1;"), 12);
        due("inside of a number that can't be", behindTwo("run x y at 99?2 for 1 cost 1;"), 11);
        due("behind a whole map", faultOf(ONE + " -"), 23);
        due("where the text may end no more", faultOf("land a in;town x of a -"), 22);
        due("nought", faultOf(ONE + (char) 0), 22);
        due("255", faultOf(ONE + (char) 255), 22);
        sentence("Terms 1", "the length, if it ends too early, or has no TOWN; NONE without.");
        due("empty", faultOf(""), 0);
        due("a blank", faultOf(" "), 1);
        due("a land alone", faultOf(LAND), 10);
        due("a land alone and blanks", faultOf(LAND + "\n \n"), 13);
        due("four lands alone", faultOf("land a in;land b in;land c in;land d in;"), 40);
        due("behind a word", faultOf(LAND + "town"), 14);
        due("behind a word and blanks", faultOf(LAND + "town  "), 16);
        due("ahead of ; alone", faultOf(LAND + "town x of a"), 21);
        due("a second line that is not whole", faultOf(ONE + "run"), 25);
        due("without", faultOf(ONE), -1);
    }

    private static void takesThePlace() {
        sentence("Terms 1", "A MAP without one takes the place of the one ahead");
        StampTales x = mapped("land c in;land d out;town p of d plus 5;town q of c;run p q at 1 for 2 cost 3;"
            + "sail q p at 4 for 5 cost 6;");
        feed(x, "town x of c;");
        due("a land of the one ahead is not told", x.fault(), 10);
        feed(x, ONE + "run q x at 1 for 1 cost 1;");
        due("a town of the one ahead is not told", x.fault(), 26);
        due("the one ahead is there", x.count(2), 2);
        feed(x, "land d in;town c of d;");
        due("its names can be told anew", x.map(), 1);
        int[] counts = {1, 1, 0};
        for (int i = 0; i < 3; i++) {
            due("count " + i, x.count(i), counts[i]);
        }
        due("its second town is gone", x.town(1, 0), -99);
        due("its clock is gone", x.town(0, 1), 0);
        due("its links are gone", x.link(0, 0), -1);
        due("no leg by them", x.leg(0, 1), -1);
        due("no man in its second town", x.man(0, 1, 0, 96), false);
        due("no stamp by its second land", x.stamp(0, 1, true, 0, 0), -1);
        due("no paper in its second town", x.paper(0, 1, 0), -1);
        due("no look in its second town", x.look(0, 1, 0, 0), -1);
        sentence("Terms 1", "both MEN have no TRACES, are at TOWN 0 at first, need no SLEEP, and their END is 96; "
            + "nothing is told.");
        String night = TWO + "run x y at 0 for 8 cost 1;sail x y at 95 for 1 cost 1;";
        x = mapped(night);
        menAreNew(x);
        for (int man = 0; man < 2; man++) {
            x.man(man, 1, 4, 40);
            x.stamp(man, 0, true, 0, 0);
            x.paper(man, 1, 3);
            x.look(man, 1, 3, 4);
            x.doubt(man, 0, true);
            due("ways", x.ways(man), 1);
        }
        x.leg(0, 0);
        feed(x, night);
        due("the same map again", x.map(), 2);
        menAreNew(x);
        due("a first trace", x.stamp(1, 0, false, 0, 0), 0);
        due("that is not doubted", x.trace(1, 0, 5), 0);
    }

    private static void menAreNew(StampTales x) {
        for (int man = 0; man < 2; man++) {
            due("traces of " + man, x.count(3 + man), 0);
            due("trace of " + man, x.trace(man, 0, 0), -99);
            due("home of " + man, x.surely(man, 0), 0);
            due("end of " + man, x.may(man, 96), 3);
            due("ways of " + man + ", nights awake", x.ways(man), 6);
            due("bar of " + man, x.barred(man), 0);
        }
        due("legs", x.count(5), 0);
    }

    private static void noMap() {
        sentence("Terms 4", "The constants: `NONE = -1`: There is none.");
        due("NONE", StampTales.NONE, -1);
        due("no fault", faultOf(ONE), StampTales.NONE);
        sentence("promise 1", "No MAP.");
        StampTales x = new StampTales();
        for (int i = 0; i < 6; i++) {
            due("count " + i, x.count(i), 0);
        }
        due("bytes", x.count(6), 0);
        due("fault of the empty text", x.fault(), 0);
        due("map", x.map(), -1);
        due("link", x.link(0, 0), -1);
        due("town", x.town(0, 0), -99);
        due("leg", x.leg(0, 0), -1);
        due("forget", x.forget(), 0);
        for (int man = 0; man < 2; man++) {
            due("man", x.man(man, 0, 0, 96), false);
            due("stamp", x.stamp(man, 0, true, 0, 0), -1);
            due("paper", x.paper(man, 0, 0), -1);
            due("look", x.look(man, 0, 0, 0), -1);
            due("doubt", x.doubt(man, 0, true), false);
            due("undoubt", x.doubt(man, 0, false), false);
            due("undo", x.undo(man), -1);
            due("trace", x.trace(man, 0, 0), -99);
            due("ways", x.ways(man), -1);
            due("may", x.may(man, 0), -1);
            due("surely", x.surely(man, 0), -1);
            due("extreme", x.extreme(man, 0), -1);
            due("tale", x.tale(man, -1), -1);
            due("toDoubt", x.toDoubt(man), -1);
            due("away", x.away(man), -1);
            due("met", x.met(0, man == 0), -1);
            due("barred", x.barred(man), -1);
        }
        feed(x, ONE + "?");
        due("a text that is no map", x.map(), -1);
        due("ways", x.ways(0), -1);
        due("towns", x.count(1), 0);
        due("cut", x.end(ONE.length()), true);
        due("a map at last", x.map(), 1);
        due("ways", x.ways(0), 1);
    }

    private static void feeding() {
        sentence("promise 2", "Bytes come behind those of the text, of each number the highest first (20 of them): "
            + "how many there are");
        StampTales x = new StampTales();
        String text = "land abc in;town defg of abc plus 7;";
        due("the first 20", feedFrom(x, text, 0), 20);
        due("the next 20", feedFrom(x, text, 20), 40);
        due("strange ones behind", x.fault(), 36);
        x.end(36);
        due("in their order", x.fault(), -1);
        x.end(9);
        due("behind the 9 that are left", feedFrom(x, text, 9), 29);
        due("behind those", feedFrom(x, text, 29), 49);
        x.end(36);
        due("in their order", x.fault(), -1);
        due("map", x.map(), 1);
        due("clock", x.town(0, 1), 7);
        due("from 0 on behind a map", x.feed(-1, -1, -1, -1, -1), 20);
        due("a byte of 255", x.fault(), 0);
        sentence("promise 2", "NONE if there would be more than 500.");
        for (int left = 0; left <= 40; left++) {
            StampTales y = new StampTales();
            feed(y, filled(ONE, 500));
            y.end(500 - left);
            due("with room for " + left, y.feed(0, 0, 0, 0, 0), left < 20 ? -1 : 520 - left);
            due("bytes", y.count(6), left < 20 ? 500 - left : 520 - left);
            due("fault", y.fault(), left < 20 ? -1 : 500 - left);
        }
    }

    private static void ending() {
        sentence("promise 3", "The text has its first n bytes alone: true; false if it has not so many, or n is "
            + "below 0.");
        StampTales x = new StampTales();
        due("none of none", x.end(0), true);
        due("one of none", x.end(1), false);
        due("20 of none", x.end(20), false);
        feedFrom(x, ONE, 0);
        feedFrom(x, ONE, 20);
        due("41 of 40", x.end(41), false);
        due("-1", x.end(-1), false);
        due("least", x.end(Integer.MIN_VALUE), false);
        due("most", x.end(Integer.MAX_VALUE), false);
        due("bytes", x.count(6), 40);
        due("fault", x.fault(), 22);
        due("40 of 40", x.end(40), true);
        due("22 of 40", x.end(22), true);
        due("fault", x.fault(), -1);
        due("22 of 22", x.end(22), true);
        due("23 of 22", x.end(23), false);
        due("21 of 22", x.end(21), true);
        due("22 of 21: it is gone", x.end(22), false);
        due("fault", x.fault(), 21);
        due("0 of 21", x.end(0), true);
        due("1 of 0", x.end(1), false);
        due("500 of 500", fullText().end(500), true);
        String text = TWO + "run xyz y at 2345 for 1 cost 1;";
        feed(x, text);
        x.end(TWO.length() + 5);
        due("cut inside a word, which is x now", x.fault(), TWO.length() + 5);
        feed(x, text.replace("xyz", "x"));
        x.end(TWO.length() + 12);
        due("cut inside a number, which is 2 now", x.fault(), TWO.length() + 12);
        due("501 of 500", fullText().end(501), false);
    }

    private static StampTales fullText() {
        StampTales x = new StampTales();
        feed(x, filled(ONE, 500));
        return x;
    }

    private static void mapping() {
        sentence("promise 4", "The FAULT of the text.");
        StampTales x = new StampTales();
        feed(x, ONE + "run");
        for (int i = 0; i < 3; i++) {
            due("asked again and again", x.fault(), 25);
        }
        due("it makes no map", x.ways(0), -1);
        sentence("promise 5", "The MAP comes of the text, which is empty then: how many TOWNS; NONE with a FAULT (it "
            + "stays).");
        due("with a fault", x.map(), -1);
        due("the text stays", x.count(6), 25);
        due("so does its fault", x.fault(), 25);
        due("mended", x.end(22), true);
        due("map", x.map(), 1);
        due("the text is empty", x.count(6), 0);
        due("so it has a fault", x.fault(), 0);
        due("so it is no map", x.map(), -1);
        due("the map stays", x.count(1), 1);
        due("no byte of it is left", x.end(1), false);
        StringBuilder towns = new StringBuilder(LAND);
        for (int many = 1; many <= 8; many++) {
            towns.append("town ").append((char) ('p' + many)).append(" of a;");
            feed(x, towns.toString());
            due(many + " towns", x.map(), many);
        }
    }

    private static void askedOfLinks() {
        sentence("promise 12", "Of a LINK: 0 and 1 its TOWNS, 2 the hour, 3 D, 4 P, 5 whether it leaves each day. "
            + "NONE for others, or if there is none such.");
        StampTales x = mapped(TWO + "sail y x at 95 for 48 cost 99;run x y at 23 for 1 cost 0;");
        int[][] want = {{1, 0, 95, 48, 99, 0}, {0, 1, 23, 1, 0, 1}};
        for (int link = 0; link < 2; link++) {
            for (int what = 0; what < 6; what++) {
                due("link " + link + " " + what, x.link(link, what), want[link][what]);
            }
        }
        int[] others = {-1, 6, 7, 16, 32, 100, Integer.MIN_VALUE, Integer.MAX_VALUE};
        for (int other : others) {
            due("link 0 " + other, x.link(0, other), -1);
            due("link " + other + " 0", x.link(other, 0), -1);
        }
        due("link 2", x.link(2, 0), -1);
        StampTales full = mapped(TWO + links(16));
        due("link 15", full.link(15, 2), 15);
        due("link 16", full.link(16, 2), -1);
        sentence("promise 13", "Of a TOWN: 0 its LAND, 1 Z (below 0: behind); -99 for others, or if there is none "
            + "such.");
        StampTales y = mapped("land a in;land b in;town x of b minus 12;town y of a plus 12;");
        int[][] towns = {{1, -12}, {0, 12}};
        for (int i = 0; i < 4; i++) {
            due("town " + i / 2 + " " + i % 2, y.town(i / 2, i % 2), towns[i / 2][i % 2]);
        }
        for (int other : new int[] {-1, 2, 3, 7, 8, 9, 100, Integer.MIN_VALUE, Integer.MAX_VALUE}) {
            due("town 0 " + other, y.town(0, other), -99);
            due("town " + other + " 0", y.town(other, 0), -99);
        }
    }

    public static void main(String[] args) {
        atMost500();
        everyByte();
        longAsCanBe();
        anyOrder();
        limits();
        clocks();
        linkNumbers();
        names();
        forms();
        faultOfEachToken();
        faultOfNames();
        faultOfBytes();
        takesThePlace();
        noMap();
        feeding();
        ending();
        mapping();
        askedOfLinks();
        report("MapEdgesTest", "");
    }
}
