import java.util.ArrayList;
import java.util.HashMap;
import java.util.List;
import java.util.Map;
import java.util.Random;
import java.util.Set;

/**
 * Promises 2 to 5, 12, 13 and 26: texts are drawn from fixed seeds, most of them spoilt somewhere, and read by a reader
 * of this test's own, which goes by written-out patterns.
 */
public final class FaultTest extends Checks {
    private static final Set<String> KEPT = Set.of("land", "town", "in", "out", "both", "none", "of", "plus", "minus",
        "run", "sail", "at", "for", "cost");

    private record Token(String word, int place) { }

    /** What a text means, by patterns; NEW, LAND, TOWN, OTHER and numbers as LEAST..MOST are not words themselves. */
    private static final class Plain {
        final List<Token> tokens = new ArrayList<>();
        final Map<String, Integer> lands = new HashMap<>();
        final Map<String, Integer> towns = new HashMap<>();
        final List<int[]> townRows = new ArrayList<>();
        final List<int[]> linkRows = new ArrayList<>();
        int at = 0;
        int fault = -2;

        Plain(String text) {
            cut(text);
            while (fault == -2 && tokens.get(at).word != null) {
                line();
            }
            if (fault == -2) {
                fault = towns.isEmpty() ? text.length() : -1;
            }
        }

        void cut(String text) {
            int i = 0;
            while (i < text.length()) {
                int j = i;
                while (j < text.length() && text.charAt(j) >= 'a' && text.charAt(j) <= 'z') {
                    j++;
                }
                while (j < text.length() && text.charAt(i) <= '9' && text.charAt(j) >= '0' && text.charAt(j) <= '9') {
                    j++;
                }
                if (j > i) {
                    tokens.add(new Token(text.substring(i, j), i));
                    i = j;
                } else {
                    if (text.charAt(i) != ' ' && text.charAt(i) != '\n') {
                        tokens.add(new Token(text.charAt(i) == ';' ? ";" : "?", i));
                    }
                    i++;
                }
            }
            tokens.add(new Token(null, text.length()));
        }

        void line() {
            String head = tokens.get(at).word;
            if (head.equals("land") && lands.size() < 4) {
                List<String> got = take("land", "NEW", "in|out|both|none", ";");
                if (got != null) {
                    lands.put(got.get(1), lands.size());
                }
            } else if (head.equals("town") && towns.size() < 8) {
                town();
            } else if (head.equals("run") && linkRows.size() < 16) {
                link(take("run", "TOWN", "OTHER", "at", "0..23", "for", "1..48", "cost", "0..99", ";"), 1);
            } else if (head.equals("sail") && linkRows.size() < 16) {
                link(take("sail", "TOWN", "OTHER", "at", "0..95", "for", "1..48", "cost", "0..99", ";"), 0);
            } else {
                fault = tokens.get(at).place;
            }
        }

        void town() {
            List<String> got = take("town", "NEW", "of", "LAND", "plus|minus|;");
            if (got == null) {
                return;
            }
            int clock = 0;
            if (!got.get(4).equals(";")) {
                List<String> more = take("0..12", ";");
                if (more == null) {
                    return;
                }
                clock = Integer.parseInt(more.get(0)) * (got.get(4).equals("plus") ? 1 : -1);
            }
            towns.put(got.get(1), towns.size());
            townRows.add(new int[] {lands.get(got.get(3)), clock});
        }

        void link(List<String> got, int daily) {
            if (got != null) {
                linkRows.add(new int[] {towns.get(got.get(1)), towns.get(got.get(2)), Integer.parseInt(got.get(4)),
                    Integer.parseInt(got.get(6)), Integer.parseInt(got.get(8)), daily});
            }
        }

        List<String> take(String... pattern) {
            List<String> got = new ArrayList<>();
            for (String part : pattern) {
                Token token = tokens.get(at);
                if (token.word == null || !fits(token.word, part, got)) {
                    fault = token.place;
                    return null;
                }
                got.add(token.word);
                at++;
            }
            return got;
        }

        boolean fits(String word, String part, List<String> got) {
            switch (part) {
                case "NEW": return word.matches("[a-z]{1,8}") && !KEPT.contains(word)
                    && !lands.containsKey(word) && !towns.containsKey(word);
                case "LAND": return lands.containsKey(word);
                case "TOWN": return towns.containsKey(word);
                case "OTHER": return towns.containsKey(word) && !word.equals(got.get(1));
                default: break;
            }
            if (part.contains("..")) {
                String[] ends = part.split("\\.\\.");
                return word.matches("0*[0-9]{1,3}") && Integer.parseInt(word) >= Integer.parseInt(ends[0])
                    && Integer.parseInt(word) <= Integer.parseInt(ends[1]);
            }
            return word.matches(part);
        }
    }

    private static String draw(Random r) {
        String[] how = {"none", "in", "out", "both"};
        List<String> names = new ArrayList<>(List.of("a", "b", "ab", "abcdefgh", "abcdefgi", "lan", "lands", "inn", "x",
            "y", "z", "zzzzzzzz", "zzzzzzz", "tow", "runs", "fort"));
        java.util.Collections.shuffle(names, r);
        List<String> words = new ArrayList<>();
        int lands = 1 + r.nextInt(4);
        int towns = 1 + r.nextInt(8);
        int links = towns < 2 ? 0 : r.nextInt(17);
        for (int i = 0; i < lands; i++) {
            words.addAll(List.of("land", names.get(i), how[r.nextInt(4)], ";"));
        }
        for (int i = 0; i < towns; i++) {
            words.addAll(List.of("town", names.get(4 + i), "of", names.get(r.nextInt(lands))));
            if (r.nextInt(3) == 0) {
                words.addAll(List.of(r.nextBoolean() ? "plus" : "minus", number(r, 0, 12)));
            }
            words.add(";");
        }
        for (int i = 0; i < links; i++) {
            boolean daily = r.nextBoolean();
            int from = r.nextInt(towns);
            int to = (from + 1 + r.nextInt(towns - 1)) % towns;
            words.addAll(List.of(daily ? "run" : "sail", names.get(4 + from), names.get(4 + to), "at",
                number(r, 0, daily ? 23 : 95), "for", number(r, 1, 48), "cost", number(r, 0, 99), ";"));
        }
        for (int n = r.nextInt(3); n > 0; n--) {
            spoil(r, words, names);
        }
        return spread(r, words);
    }

    private static String number(Random r, int least, int most) {
        int n = r.nextInt(6) == 0 ? least : r.nextInt(5) == 0 ? most : least + r.nextInt(most - least + 1);
        return (r.nextInt(20) == 0 ? "00" : "") + n;
    }

    private static void spoil(Random r, List<String> words, List<String> names) {
        String[] strange = {"0", "12", "13", "23", "24", "48", "49", "95", "96", "99", "100", "4294967297", "?", "A",
            "{", "`", "/", ":", ";", ";;", "\t", "abcdefghi", "land", "town", "in", "out", "both", "none", "of", "plus",
            "minus", "run", "sail", "at", "for", "cost", "" + (char) 0, "" + (char) 200};
        int i = r.nextInt(words.size());
        String word = r.nextInt(3) == 0 ? names.get(r.nextInt(names.size())) : strange[r.nextInt(strange.length)];
        switch (r.nextInt(4)) {
            case 0: words.remove(i); break;
            case 1: words.add(i, word); break;
            case 2: words.set(i, word); break;
            default: words.set(i, words.get(r.nextInt(words.size()))); break;
        }
    }

    private static String spread(Random r, List<String> words) {
        StringBuilder out = new StringBuilder();
        boolean tight = r.nextInt(3) != 0;
        for (String word : words) {
            char last = out.length() == 0 ? ' ' : out.charAt(out.length() - 1);
            boolean both = Character.isLetter(last) && !word.isEmpty() && Character.isLetter(word.charAt(0))
                || Character.isDigit(last) && !word.isEmpty() && Character.isDigit(word.charAt(0));
            for (int n = tight ? 0 : r.nextInt(3); n > 0; n--) {
                out.append(r.nextInt(4) == 0 ? '\n' : ' ');
            }
            if (both) {
                out.append(' ');
            }
            out.append(word);
        }
        if (r.nextInt(4) == 0) {
            out.append("\n ");
        }
        if (out.length() > 500 || r.nextInt(12) == 0) {
            out.setLength(Math.min(out.length(), r.nextInt(501)));
        }
        return out.toString();
    }

    private static void compare(StampTales x, String text, Plain plain) {
        due("lands of " + text, x.count(0), plain.lands.size());
        due("towns of " + text, x.count(1), plain.towns.size());
        due("links of " + text, x.count(2), plain.linkRows.size());
        for (int i = 0; i < plain.townRows.size(); i++) {
            due("town " + i + " of " + text, x.town(i, 0), plain.townRows.get(i)[0]);
            due("clock " + i + " of " + text, x.town(i, 1), plain.townRows.get(i)[1]);
        }
        for (int i = 0; i < plain.linkRows.size(); i++) {
            for (int what = 0; what < 6; what++) {
                due("link " + i + " " + what + " of " + text, x.link(i, what), plain.linkRows.get(i)[what]);
            }
        }
    }

    public static void main(String[] args) {
        int seeds = args.length > 0 ? Integer.parseInt(args[0]) : 20000;
        StampTales x = new StampTales();
        Plain stands = null;
        int good = 0;
        for (int seed = 0; seed < seeds; seed++) {
            String text = draw(new Random(seed));
            Plain plain = new Plain(text);
            feed(x, text);
            due("fault of " + text, x.fault(), plain.fault);
            due("map of " + text, x.map(), plain.fault == -1 ? plain.towns.size() : -1);
            due("bytes behind " + text, x.count(6), plain.fault == -1 ? 0 : text.length());
            if (plain.fault == -1) {
                good++;
                stands = plain;
            }
            if (stands != null) {
                compare(x, text, stands);
            }
        }
        due("whether some texts are maps, and some are not", good > seeds / 10 && good < seeds * 9 / 10, true);
        report("FaultTest", seeds + " texts, " + good + " of them maps, ");
    }
}
