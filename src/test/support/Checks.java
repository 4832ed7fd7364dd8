import java.io.IOException;
import java.nio.charset.StandardCharsets;
import java.nio.file.Files;
import java.nio.file.Path;

/** What the tests share: answers that are not as due are counted and printed, and texts are fed. */
abstract class Checks {
    private static final Path DOCUMENT = Path.of("../shared/DOC.md");
    private static final int MOST_PRINTED = 40;
    private static int wrong = 0;
    private static int asked = 0;
    private static int sentences = 0;
    private static String part = "";
    private static String document = null;

    static void promise(String number) {
        part = "promise " + number;
    }

    /** What follows tests these words of the document, in the part Terms or in a promise; they must stand there. */
    static void sentence(String where, String words) {
        part = where + ", \"" + words + "\"";
        sentences++;
        due("whether the document says so", document().contains(words.replaceAll("\\s+", " ")), true);
    }

    private static String document() {
        if (document == null) {
            try {
                document = Files.readString(DOCUMENT, StandardCharsets.UTF_8).replaceAll("\\s+", " ");
            } catch (IOException e) {
                document = "";
                System.out.println(DOCUMENT + " can't be read: " + e);
            }
        }
        return document;
    }

    static void due(String call, long got, long want) {
        asked++;
        if (got != want) {
            wrong++;
            if (wrong <= MOST_PRINTED) {
                String where = part.isEmpty() ? "" : part + ": ";
                System.out.println(where + call + " answered " + got + ", due is " + want);
            }
        }
    }

    static void due(String call, boolean got, boolean want) {
        due(call, got ? 1 : 0, want ? 1 : 0);
    }

    /** Puts a text in the place of the one that is there; behind its end, strange bytes are fed and cut off again. */
    static void feed(StampTales x, String text) {
        due("end(0)", x.end(0), true);
        for (int i = 0; i < text.length(); i += 20) {
            due("feed", feedFrom(x, text, i), i + 20);
        }
        due("end", x.end(text.length()), true);
    }

    /** Feeds the 20 bytes of a text that begin at a place. */
    static int feedFrom(StampTales x, String text, int place) {
        int[] five = new int[5];
        for (int j = 0; j < 20; j++) {
            five[j / 4] = five[j / 4] << 8 | (place + j < text.length() ? text.charAt(place + j) : '?');
        }
        return x.feed(five[0], five[1], five[2], five[3], five[4]);
    }

    static StampTales mapped(String text) {
        StampTales x = new StampTales();
        feed(x, text);
        due("fault of " + text, x.fault(), StampTales.NONE);
        x.map();
        return x;
    }

    static int faultOf(String text) {
        StampTales x = new StampTales();
        feed(x, text);
        return x.fault();
    }

    /** Legs take the place of those that were told: a link and an hour each. */
    static void tell(StampTales x, int... legs) {
        x.forget();
        for (int i = 0; i + 1 < legs.length; i += 2) {
            due("leg", x.leg(legs[i], legs[i + 1]), i / 2 + 1);
        }
    }

    /** Tells what was asked, and ends with 1 if an answer was not as due. */
    static void report(String test, String more) {
        String found = sentences == 0 ? "" : sentences + " sentences, ";
        System.out.println(test + ": " + more + found + asked + " answers, " + wrong + " not as due");
        if (wrong != 0) {
            System.exit(1);
        }
    }
}
