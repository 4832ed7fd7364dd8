/** The edges that the document names for the MEN and their TRACES (promises 6 to 11, and 14), sentence by sentence. */
public final class TraceEdgesTest extends Checks {
    private static final String MAP = "land a both;land b both;town x of a;town y of b;town z of a;"
        + "run x y at 9 for 5 cost 7;run y x at 20 for 5 cost 3;";
    private static final int[] FAR = {Integer.MIN_VALUE, Integer.MIN_VALUE + 1, -256, -99, 100, 128, 256, 65536,
        Integer.MAX_VALUE - 1, Integer.MAX_VALUE};

    private static StampTales fresh() {
        return mapped(MAP);
    }

    private static StampTales withPapers(int many) {
        StampTales x = fresh();
        for (int i = 0; i < many; i++) {
            due("paper " + i, x.paper(0, 0, i), i);
        }
        return x;
    }

    private static StampTales withStamps(int many) {
        StampTales x = fresh();
        for (int i = 0; i < many; i++) {
            due("stamp " + i, x.stamp(0, i % 2, true, i - 1, 5), i);
        }
        return x;
    }

    private static void men() {
        sentence("Terms 2", "MEN are 0 and 1.");
        StampTales x = fresh();
        for (int man = -2; man <= 3; man++) {
            boolean is = man == 0 || man == 1;
            due("man " + man, x.man(man, 0, 0, 96), is);
            due("stamp of " + man, x.stamp(man, 0, true, 0, 0), is ? 0 : -1);
            due("paper of " + man, x.paper(man, 0, 0), is ? 1 : -1);
            due("look of " + man, x.look(man, 0, 0, 0), is ? 2 : -1);
            due("trace of " + man, x.trace(man, 1, 0), is ? 1 : -99);
            due("doubt of " + man, x.doubt(man, 0, true), is);
            due("undo of " + man, x.undo(man), is ? 2 : -1);
            due("ways of " + man, x.ways(man), is ? 1 : -1);
            due("may of " + man, x.may(man, 0), is ? 1 : -1);
            due("surely of " + man, x.surely(man, 0), is ? 0 : -1);
            due("extreme of " + man, x.extreme(man, 0), is ? 0 : -1);
            due("tale of " + man, x.tale(man, -1), is ? 0 : -1);
            due("toDoubt of " + man, x.toDoubt(man), is ? 0 : -1);
            due("away of " + man, x.away(man), -1);
            due("barred of " + man, x.barred(man), is ? 0 : -1);
        }
        sentence("promise 6", "A man's HOME, SLEEP and END (1 .. 96): true; false if there is no MAP, or they can't "
            + "be.");
        for (int n = -2; n <= 100; n++) {
            due("home " + n, fresh().man(1, n, 0, 96), n >= 0 && n < 3);
            due("sleep " + n, fresh().man(1, 0, n, 96), n >= 0 && n <= 4);
            due("end " + n, fresh().man(1, 0, 0, n), n >= 1 && n <= 96);
        }
        for (int far : FAR) {
            due("man " + far, fresh().man(far, 0, 0, 96), false);
            due("home " + far, fresh().man(0, far, 0, 96), false);
            due("sleep " + far, fresh().man(0, 0, far, 96), false);
            due("end " + far, fresh().man(0, 0, 0, far), false);
        }
        due("no map", new StampTales().man(0, 0, 0, 96), false);
        oneManAlone();
    }

    private static void oneManAlone() {
        StampTales x = fresh();
        x.paper(0, 2, 30);
        x.paper(1, 0, 0);
        due("home 2, end 30", x.man(0, 2, 4, 30), true);
        due("his home", x.surely(0, 0), 2);
        due("his end", x.may(0, 30), 4);
        due("behind his end", x.may(0, 31), -1);
        due("his traces stay", x.count(3), 1);
        due("the other's home", x.surely(1, 0), 0);
        due("the other's end", x.may(1, 96), 1);
        due("the same again", x.man(0, 2, 4, 30), true);
        due("his home", x.surely(0, 0), 2);
    }

    private static void stamps() {
        sentence("promise 7", "A STAMP (out, else IN): its number among TRACES; NONE if there is none such, DAYS "
            + "can't be, he has 6, or 8 TRACES.");
        for (int from = -4; from <= 8; from++) {
            for (int to = -4; to <= 8; to++) {
                boolean can = from >= -1 && from <= to && to <= 5;
                due("days " + from + " to " + to, fresh().stamp(0, 0, true, from, to), can ? 0 : -1);
            }
        }
        for (int land = -2; land <= 4; land++) {
            due("land " + land, fresh().stamp(1, land, false, 0, 0), land == 0 || land == 1 ? 0 : -1);
        }
        for (int far : FAR) {
            due("man " + far, fresh().stamp(far, 0, true, 0, 0), -1);
            due("land " + far, fresh().stamp(0, far, true, 0, 0), -1);
            due("from " + far, fresh().stamp(0, 0, true, far, 5), -1);
            due("to " + far, fresh().stamp(0, 0, true, -1, far), -1);
        }
        StampTales x = withStamps(6);
        due("he has 6", x.stamp(0, 0, true, 0, 0), -1);
        due("a paper as the 7th trace", x.paper(0, 0, 0), 6);
        due("he has 6 yet", x.stamp(0, 0, true, 0, 0), -1);
        due("the other has none", x.stamp(1, 0, true, 0, 0), 0);
        due("a doubted one is one of the 6", x.doubt(0, 2, true), true);
        due("he has 6 yet", x.stamp(0, 0, true, 0, 0), -1);
        x = withPapers(7);
        due("an 8th trace", x.stamp(0, 1, true, 0, 0), 7);
        due("a 9th trace", x.stamp(0, 1, true, 0, 0), -1);
        due("his 8 papers", withPapers(8).stamp(0, 1, true, 0, 0), -1);
    }

    private static void papers() {
        sentence("promise 8", "A PAPER: likewise.");
        for (int hour = -2; hour <= 99; hour++) {
            due("hour " + hour, fresh().paper(0, 0, hour), hour >= 0 && hour <= 96 ? 0 : -1);
        }
        for (int town = -2; town <= 9; town++) {
            due("town " + town, fresh().paper(1, town, 5), town >= 0 && town < 3 ? 0 : -1);
        }
        for (int far : FAR) {
            due("man " + far, fresh().paper(far, 0, 0), -1);
            due("town " + far, fresh().paper(0, far, 0), -1);
            due("hour " + far, fresh().paper(0, 0, far), -1);
        }
        StampTales x = withPapers(8);
        due("8 traces", x.count(3), 8);
        due("a 9th trace", x.paper(0, 0, 0), -1);
        due("the other has none", x.paper(1, 0, 0), 0);
        x = fresh();
        x.man(0, 0, 0, 50);
        due("behind the end", x.paper(0, 0, 51), 0);
    }

    private static void looks() {
        sentence("promise 9", "A LOOK: likewise (hours 0 .. 96).");
        int[] hours = {-2, -1, 0, 1, 48, 95, 96, 97, 98};
        for (int from : hours) {
            for (int to : hours) {
                boolean can = from >= 0 && from <= to && to <= 96;
                due("hours " + from + " to " + to, fresh().look(0, 0, from, to), can ? 0 : -1);
            }
        }
        for (int town = -2; town <= 9; town++) {
            due("town " + town, fresh().look(1, town, 5, 6), town >= 0 && town < 3 ? 0 : -1);
        }
        for (int far : FAR) {
            due("man " + far, fresh().look(far, 0, 0, 0), -1);
            due("town " + far, fresh().look(0, far, 0, 0), -1);
            due("from " + far, fresh().look(0, 0, far, 96), -1);
            due("to " + far, fresh().look(0, 0, 0, far), -1);
        }
        StampTales x = fresh();
        due("a first look", x.look(0, 0, 0, 96), 0);
        due("a second", x.look(0, 0, 0, 96), 1);
        due("a third", x.look(0, 0, 0, 96), -1);
        due("a paper is none of them", x.paper(0, 0, 0), 2);
        due("a third", x.look(0, 0, 0, 96), -1);
        due("a doubted one is one of the 2", x.doubt(0, 0, true), true);
        due("a third", x.look(0, 0, 0, 96), -1);
        due("the other has none", x.look(1, 0, 0, 96), 0);
        x = withPapers(7);
        due("an 8th trace", x.look(0, 0, 0, 0), 7);
        due("a 9th trace", x.look(0, 0, 0, 0), -1);
        due("his 8 papers", withPapers(8).look(0, 0, 0, 0), -1);
    }

    private static void numbersAsTheyCome() {
        sentence("Terms 2", "TRACES have numbers as they come, at most 8 a man: STAMPS: a LAND, IN or OUT, and two "
            + "DAYS (-1 .. 5, the second no less), at most 6; PAPERS: a TOWN and an hour (0 .. 96); LOOKS: a TOWN "
            + "and two hours (the second no less), at most 2.");
        StampTales x = fresh();
        due("paper", x.paper(0, 1, 96), 0);
        for (int i = 1; i <= 5; i++) {
            due("stamp", x.stamp(0, i % 2, i % 2 == 0, -1, i), i);
        }
        due("look", x.look(0, 2, 0, 96), 6);
        due("stamp", x.stamp(0, 1, true, 5, 5), 7);
        due("traces", x.count(3), 8);
        due("traces of the other", x.count(4), 0);
        int[][] want = {{1, 1, 96, 96, 0, 0}, {0, 1, -1, 1, 0, 0}, {0, 0, -1, 2, 1, 0}, {0, 1, -1, 3, 0, 0},
            {0, 0, -1, 4, 1, 0}, {0, 1, -1, 5, 0, 0}, {2, 2, 0, 96, 0, 0}, {0, 1, 5, 5, 1, 0}};
        for (int trace = 0; trace < 8; trace++) {
            for (int what = 0; what < 6; what++) {
                due("trace " + trace + " " + what, x.trace(0, trace, what), want[trace][what]);
            }
        }
        sentence("promise 14", "Of a TRACE: 0 its kind (0 STAMP, 1 PAPER, 2 LOOK), 1 the LAND or TOWN, 2 the first "
            + "DAY or hour, 3 the second (of a PAPER the same), 4 whether OUT (0 of others), 5 whether it is "
            + "DOUBTED; -99 for others, or if there is none such.");
        for (int other : new int[] {-2, -1, 6, 7, 8, 9, Integer.MIN_VALUE, Integer.MAX_VALUE}) {
            due("trace 0 " + other, x.trace(0, 0, other), -99);
            if (other < 0 || other > 7) {
                due("trace " + other + " 0", x.trace(0, other, 0), -99);
            }
            due("trace 0 of the other", x.trace(1, 0, other), -99);
            due("of man " + (other == -2 ? 2 : other), x.trace(other == -2 ? 2 : other, 0, 0), -99);
        }
        due("undo", x.undo(0), 7);
        due("the one that is gone", x.trace(0, 7, 0), -99);
        due("a paper where an OUT was", x.paper(0, 0, 3), 7);
        due("it is not OUT", x.trace(0, 7, 4), 0);
    }

    private static void doubts() {
        sentence("promise 10", "A TRACE is DOUBTED, or no more: true; false if there is none such, or it is so "
            + "already.");
        StampTales x = withPapers(8);
        for (int trace = 0; trace < 8; trace++) {
            due("not doubted " + trace, x.doubt(0, trace, false), false);
            due("doubt " + trace, x.doubt(0, trace, true), true);
            due("doubt again " + trace, x.doubt(0, trace, true), false);
            due("told " + trace, x.trace(0, trace, 5), 1);
            due("no more " + trace, x.doubt(0, trace, false), true);
            due("told " + trace, x.trace(0, trace, 5), 0);
            due("no more again " + trace, x.doubt(0, trace, false), false);
        }
        for (int is = 0; is < 2; is++) {
            for (int no : new int[] {-1, 8, 9, Integer.MIN_VALUE, Integer.MAX_VALUE}) {
                due("trace " + no, x.doubt(0, no, is == 1), false);
                due("man " + no, x.doubt(no, 0, is == 1), false);
            }
            due("the other has none", x.doubt(1, 0, is == 1), false);
        }
        due("undo", x.undo(0), 7);
        due("the one that is gone", x.doubt(0, 7, true), false);
    }

    private static void undone() {
        sentence("promise 11", "The last TRACE is gone: how many there are; NONE if there is none, or no such man.");
        StampTales x = withPapers(8);
        for (int left = 7; left >= 0; left--) {
            due("undo", x.undo(0), left);
            due("traces", x.count(3), left);
            due("the last is gone", x.trace(0, left, 0), -99);
            due("the one ahead of it is there", x.trace(0, left - 1, 2), left == 0 ? -99 : left - 1);
        }
        due("undo of none", x.undo(0), -1);
        due("undo of the other's none", x.undo(1), -1);
        for (int man : new int[] {-1, 2, Integer.MIN_VALUE, Integer.MAX_VALUE}) {
            due("undo of " + man, x.undo(man), -1);
        }
        due("the first number again", x.paper(0, 1, 1), 0);
        due("no way fits with it", x.ways(0), 0);
        due("it is gone", x.undo(0), 0);
        due("it counts no more", x.ways(0), 1);
        due("nor for what is told", x.barred(0), 0);
        x = withStamps(6);
        x.doubt(0, 5, true);
        due("undo of the 6th stamp", x.undo(0), 5);
        due("a 6th stamp", x.stamp(0, 0, false, 1, 2), 5);
        due("it is not doubted", x.trace(0, 5, 5), 0);
        due("it is IN", x.trace(0, 5, 4), 0);
        due("a 7th stamp", x.stamp(0, 0, false, 1, 2), -1);
        x = fresh();
        x.look(0, 0, 0, 0);
        x.look(0, 0, 0, 0);
        due("undo of the second look", x.undo(0), 1);
        due("a second look", x.look(0, 0, 1, 1), 1);
        due("a third look", x.look(0, 0, 1, 1), -1);
    }

    public static void main(String[] args) {
        men();
        stamps();
        papers();
        looks();
        numbersAsTheyCome();
        doubts();
        undone();
        report("TraceEdgesTest", "");
    }
}
