import java.util.ArrayList;
import java.util.List;
import java.util.function.ToIntFunction;

/**
 * "What is refused changes nothing": each call that is refused, in several states, with all that can be asked ahead of
 * it and behind it; and the 512 calls of an object.
 */
public final class RefusedTest extends Checks {
    private static final String MAP = "land a both;land b both;town x of a;town y of b minus 3;town z of a plus 4;"
        + "run x y at 9 for 5 cost 7;run y x at 20 for 5 cost 3;sail x z at 2 for 4 cost 9;run z y at 1 for 3 cost 2;";
    private static final String OTHER = "land c in;town p of c;town q of c plus 2;run p q at 5 for 6 cost 7;";
    private static final int[] FAR = {Integer.MIN_VALUE, -256, -100, -3, 100, 256, 501, Integer.MAX_VALUE};

    /** A call that is refused, and what it answers then. */
    private record Refused(String name, ToIntFunction<StampTales> call, int answer) { }

    /** How an object is made, and which calls are refused then. */
    private record State(String name, List<Refused> refused) {
        StampTales make() {
            return switch (name) {
                case "new" -> new StampTales();
                case "no map" -> noMap();
                case "some" -> some();
                default -> full();
            };
        }
    }

    private static StampTales noMap() {
        StampTales x = new StampTales();
        feed(x, MAP + "town x");
        return x;
    }

    private static StampTales some() {
        StampTales x = mapped(MAP);
        x.man(0, 0, 2, 90);
        x.man(1, 2, 3, 70);
        x.stamp(0, 0, true, 0, 2);
        x.stamp(0, 1, false, 0, 2);
        x.look(0, 1, 30, 80);
        x.paper(1, 2, 1);
        x.doubt(0, 2, true);
        tell(x, 0, 9, 1, 20);
        feed(x, OTHER + "?");
        return x;
    }

    private static StampTales full() {
        StampTales x = mapped(MAP);
        for (int i = 0; i < 6; i++) {
            x.stamp(0, (i + 1) / 2 % 2, i % 2 == 0, 0, 3);
        }
        x.look(0, 1, 10, 30);
        x.look(0, 0, 40, 90);
        for (int i = 0; i < 8; i++) {
            x.paper(1, i % 4 == 3 ? 1 : 0, i);
        }
        x.doubt(1, 3, true);
        for (int i = 0; i < 20; i++) {
            x.leg(i % 4, 9);
        }
        feed(x, OTHER + " ".repeat(481 - OTHER.length()));
        return x;
    }

    private static void add(List<Refused> list, String name, int answer, ToIntFunction<StampTales> call) {
        list.add(new Refused(name, call, answer));
    }

    private static int bit(boolean is) {
        return is ? 1 : 0;
    }

    /** What is refused in every state. */
    private static List<Refused> always() {
        List<Refused> list = new ArrayList<>();
        for (int far : FAR) {
            if (far < 0 || far > 500) {
                add(list, "end " + far, 0, x -> bit(x.end(far)));
            }
            add(list, "man " + far, 0, x -> bit(x.man(far, 1, 1, 50)));
            add(list, "home " + far, 0, x -> bit(x.man(0, far, 1, 50)));
            add(list, "sleep " + far, 0, x -> bit(x.man(0, 1, far, 50)));
            add(list, "man's end " + far, 0, x -> bit(x.man(1, 1, 1, far)));
            add(list, "stamp of " + far, -1, x -> x.stamp(far, 0, true, 0, 1));
            add(list, "stamp by " + far, -1, x -> x.stamp(0, far, true, 0, 1));
            add(list, "stamp from " + far, -1, x -> x.stamp(1, 0, true, far, 5));
            add(list, "stamp to " + far, -1, x -> x.stamp(1, 0, true, -1, far));
            add(list, "paper of " + far, -1, x -> x.paper(far, 0, 0));
            add(list, "paper in " + far, -1, x -> x.paper(0, far, 0));
            add(list, "paper at " + far, -1, x -> x.paper(1, 0, far));
            add(list, "look of " + far, -1, x -> x.look(far, 0, 0, 1));
            add(list, "look in " + far, -1, x -> x.look(0, far, 0, 1));
            add(list, "look from " + far, -1, x -> x.look(1, 0, far, 96));
            add(list, "look to " + far, -1, x -> x.look(1, 0, 0, far));
            add(list, "doubt of " + far, 0, x -> bit(x.doubt(far, 0, true)));
            add(list, "doubt " + far, 0, x -> bit(x.doubt(0, far, true)));
            add(list, "no more " + far, 0, x -> bit(x.doubt(1, far, false)));
            add(list, "undo " + far, -1, x -> x.undo(far));
            add(list, "leg " + far, -1, x -> x.leg(far, 9));
            add(list, "leg at " + far, -1, x -> x.leg(0, far));
            questions(list, far);
        }
        edges(list);
        return list;
    }

    private static void questions(List<Refused> list, int far) {
        add(list, "link " + far, -1, x -> x.link(far, 0));
        add(list, "link 0 " + far, -1, x -> x.link(0, far));
        add(list, "town " + far, -99, x -> x.town(far, 0));
        add(list, "town 0 " + far, -99, x -> x.town(0, far));
        add(list, "trace of " + far, -99, x -> x.trace(far, 0, 0));
        add(list, "trace " + far, -99, x -> x.trace(0, far, 0));
        add(list, "trace 0 " + far, -99, x -> x.trace(0, 0, far));
        add(list, "ways " + far, -1, x -> x.ways(far));
        add(list, "may of " + far, -1, x -> x.may(far, 0));
        add(list, "may at " + far, -1, x -> x.may(0, far));
        add(list, "surely of " + far, -1, x -> x.surely(far, 0));
        add(list, "surely at " + far, -1, x -> x.surely(0, far));
        add(list, "extreme of " + far, -1, x -> x.extreme(far, 0));
        add(list, "extreme " + far, -1, x -> x.extreme(0, far));
        add(list, "tale of " + far, -1, x -> x.tale(far, -1));
        add(list, "tale " + far, -1, x -> x.tale(0, far));
        add(list, "toDoubt " + far, -1, x -> x.toDoubt(far));
        add(list, "away " + far, -1, x -> x.away(far));
        add(list, "met at " + far, -1, x -> x.met(far, false));
        add(list, "surely met at " + far, -1, x -> x.met(far, true));
        add(list, "barred " + far, -1, x -> x.barred(far));
        add(list, "count " + far, -1, x -> x.count(far));
    }

    private static void edges(List<Refused> list) {
        add(list, "end -1", 0, x -> bit(x.end(-1)));
        add(list, "end one too many", 0, x -> bit(x.end(x.count(6) + 1)));
        add(list, "man 2", 0, x -> bit(x.man(2, 1, 1, 50)));
        add(list, "man -1", 0, x -> bit(x.man(-1, 1, 1, 50)));
        add(list, "home 3", 0, x -> bit(x.man(0, 3, 1, 50)));
        add(list, "home -1", 0, x -> bit(x.man(0, -1, 1, 50)));
        add(list, "sleep 5", 0, x -> bit(x.man(1, 1, 5, 50)));
        add(list, "sleep -1", 0, x -> bit(x.man(1, 1, -1, 50)));
        add(list, "man's end 0", 0, x -> bit(x.man(0, 1, 1, 0)));
        add(list, "man's end 97", 0, x -> bit(x.man(0, 1, 1, 97)));
        add(list, "stamp by a third land", -1, x -> x.stamp(0, 2, true, 0, 1));
        add(list, "stamp from -2", -1, x -> x.stamp(1, 0, true, -2, 1));
        add(list, "stamp to 6", -1, x -> x.stamp(1, 0, true, 0, 6));
        add(list, "stamp from 3 to 2", -1, x -> x.stamp(1, 0, true, 3, 2));
        add(list, "paper in a fourth town", -1, x -> x.paper(1, 3, 0));
        add(list, "paper at 97", -1, x -> x.paper(1, 0, 97));
        add(list, "look from 3 to 2", -1, x -> x.look(1, 0, 3, 2));
        add(list, "look to 97", -1, x -> x.look(1, 0, 3, 97));
        add(list, "doubt 8", 0, x -> bit(x.doubt(1, 8, true)));
        add(list, "undo 2", -1, x -> x.undo(2));
        add(list, "leg of a fifth link", -1, x -> x.leg(4, 9));
        add(list, "leg at 97", -1, x -> x.leg(0, 97));
    }

    /** What is refused besides, in one state. */
    private static List<Refused> refusedIn(String state) {
        List<Refused> list = always();
        if (!state.equals("full")) {
            add(list, "map with a fault", -1, StampTales::map);
        }
        if (state.equals("new") || state.equals("no map")) {
            add(list, "man", 0, x -> bit(x.man(0, 0, 1, 50)));
            add(list, "stamp", -1, x -> x.stamp(0, 0, true, 0, 1));
            add(list, "paper", -1, x -> x.paper(0, 0, 0));
            add(list, "look", -1, x -> x.look(1, 0, 0, 0));
            add(list, "doubt", 0, x -> bit(x.doubt(0, 0, true)));
            add(list, "undo", -1, x -> x.undo(1));
            add(list, "leg", -1, x -> x.leg(0, 9));
            add(list, "forget", 0, StampTales::forget);
        } else if (state.equals("some")) {
            add(list, "doubt again", 0, x -> bit(x.doubt(0, 2, true)));
            add(list, "not doubted", 0, x -> bit(x.doubt(0, 1, false)));
            add(list, "trace 3", 0, x -> bit(x.doubt(0, 3, true)));
        } else {
            add(list, "feed over 500", -1, x -> x.feed(-1, -1, -1, -1, -1));
            add(list, "7th stamp", -1, x -> x.stamp(0, 1, true, 1, 1));
            add(list, "9th trace: a stamp", -1, x -> x.stamp(1, 1, true, 1, 1));
            add(list, "9th trace: a paper", -1, x -> x.paper(0, 1, 1));
            add(list, "9th trace: a paper", -1, x -> x.paper(1, 1, 1));
            add(list, "3rd look", -1, x -> x.look(0, 1, 1, 1));
            add(list, "9th trace: a look", -1, x -> x.look(1, 1, 1, 1));
            add(list, "doubt again", 0, x -> bit(x.doubt(1, 3, true)));
            add(list, "21st leg", -1, x -> x.leg(0, 9));
        }
        return list;
    }

    /** All that can be asked of an object. */
    private static List<Integer> all(StampTales x) {
        List<Integer> out = new ArrayList<>();
        out.add(x.fault());
        for (int what = 0; what < 7; what++) {
            out.add(x.count(what));
        }
        for (int i = 0; i < 96; i++) {
            out.add(x.link(i / 6, i % 6));
            out.add(x.town(i / 6, i % 6));
        }
        for (int man = 0; man < 2; man++) {
            allOf(x, man, out);
        }
        for (int h = 0; h <= 96; h++) {
            out.add(x.met(h, false));
            out.add(x.met(h, true));
        }
        return out;
    }

    private static void allOf(StampTales x, int man, List<Integer> out) {
        for (int i = 0; i < 48; i++) {
            out.add(x.trace(man, i / 6, i % 6));
        }
        out.add(x.ways(man));
        for (int h = 0; h <= 96; h++) {
            out.add(x.may(man, h));
            out.add(x.surely(man, h));
        }
        for (int what = 0; what < 4; what++) {
            out.add(x.extreme(man, what));
        }
        for (int k = -1; k < 20; k++) {
            out.add(x.tale(man, k));
        }
        out.add(x.toDoubt(man));
        out.add(x.away(man));
        out.add(x.barred(man));
    }

    /** Goes on with ordinary calls: they would show what was changed where no question reaches. */
    private static List<Integer> goOn(StampTales x) {
        List<Integer> out = new ArrayList<>();
        for (int man = 0; man < 2; man++) {
            out.add(bit(x.doubt(man, 0, true)));
            out.add(bit(x.doubt(man, 0, false)));
        }
        out.addAll(all(x));
        for (int man = 0; man < 2; man++) {
            out.add(x.undo(man));
            out.add(x.paper(man, 0, 0));
            out.add(x.look(man, 0, 0, 4));
        }
        out.add(x.leg(1, 20));
        out.addAll(all(x));
        out.add(x.forget());
        out.add(x.leg(0, 9));
        out.add(bit(x.end(OTHER.length())));
        out.addAll(all(x));
        out.add(x.map());
        out.addAll(all(x));
        return out;
    }

    private static void refuse(State state, Refused call, List<Integer> before, List<Integer> onward) {
        String name = state.name + ", " + call.name + ": ";
        StampTales asked = state.make();
        all(asked);
        due(name + "asked ahead", call.call.applyAsInt(asked), call.answer);
        due(name + "all is as it was", all(asked).equals(before), true);
        due(name + "all goes on as it would", goOn(asked).equals(onward), true);
        StampTales unasked = state.make();
        due(name + "asked nothing ahead", call.call.applyAsInt(unasked), call.answer);
        due(name + "all is as without it", all(unasked).equals(before), true);
        due(name + "all goes on as without it", goOn(unasked).equals(onward), true);
    }

    private static void refusals() {
        sentence("Terms 4", "What is refused changes nothing.");
        for (String name : "new,no map,some,full".split(",")) {
            State state = new State(name, refusedIn(name));
            List<Integer> before = all(state.make());
            List<Integer> onward = goOn(state.make());
            due(name + ": what is asked changes nothing", all(state.make()).equals(before), true);
            StampTales twice = state.make();
            all(twice);
            due(name + ": asked twice", all(twice).equals(before), true);
            inAnyOrder(state);
            for (Refused call : state.refused) {
                refuse(state, call, before, onward);
            }
            StampTales many = state.make();
            for (Refused call : state.refused) {
                due(name + ", one behind the other: " + call.name, call.call.applyAsInt(many), call.answer);
            }
            due(name + ": all of them change nothing", all(many).equals(before), true);
        }
    }

    /** Each question alone of a new object, and all of one object, in their order and in the other. */
    private static void inAnyOrder(State state) {
        List<ToIntFunction<StampTales>> asked = new ArrayList<>();
        for (int i = 0; i < 2; i++) {
            int man = i;
            asked.addAll(List.of(x -> x.ways(man), x -> x.may(man, 12), x -> x.surely(man, 30), x -> x.extreme(man, 0),
                x -> x.extreme(man, 1), x -> x.extreme(man, 2), x -> x.extreme(man, 3)));
            asked.addAll(List.of(x -> x.tale(man, -1), x -> x.tale(man, 0), x -> x.toDoubt(man), x -> x.away(man),
                x -> x.barred(man), x -> x.met(12, man == 0)));
        }
        StampTales forth = state.make();
        StampTales back = state.make();
        int[] alone = new int[asked.size()];
        for (int i = 0; i < alone.length; i++) {
            alone[i] = asked.get(i).applyAsInt(state.make());
            due(state.name + ", question " + i, asked.get(i).applyAsInt(forth), alone[i]);
        }
        for (int i = alone.length - 1; i >= 0; i--) {
            due(state.name + ", question " + i + " backwards", asked.get(i).applyAsInt(back), alone[i]);
        }
    }

    private static void fullTextStays() {
        sentence("promise 2", "NONE if there would be more than 500.");
        StampTales x = full();
        due("refused", x.feed(0x3f3f3f3f, 0x3f3f3f3f, 0x3f3f3f3f, 0x3f3f3f3f, 0x3f3f3f3f), -1);
        due("bytes", x.count(6), 481);
        due("the text is what it was", x.fault(), -1);
        due("one byte less is room enough", x.end(480), true);
        due("fed", x.feed(0x20202020, 0x20202020, 0x20202020, 0x20202020, 0x20202020), 500);
        due("map", x.map(), 2);
        due("town", x.town(1, 1), 2);
    }

    private static void manyCalls() {
        sentence("What it is", "An object is used for at most 512 calls after it has been made; what later calls "
            + "answer is free.");
        StampTales x = new StampTales();
        int calls = 0;
        for (int i = 0; i < MAP.length(); i += 20) {
            due("feed", feedFrom(x, MAP, i), i + 20);
            calls++;
        }
        due("end", x.end(MAP.length()), true);
        due("map", x.map(), 3);
        due("paper", x.paper(0, 2, 6), 0);
        for (calls += 3; calls + 3 < 512; calls += 3) {
            due("away without a doubt", x.away(0), 0);
            due("doubt", x.doubt(0, 0, true), true);
            due("no more", x.doubt(0, 0, false), true);
        }
        for (; calls < 512; calls++) {
            due("may", x.may(0, 6), 4);
        }
    }

    public static void main(String[] args) {
        refusals();
        fullTextStays();
        manyCalls();
        report("RefusedTest", "");
    }
}
