import java.util.ArrayList;
import java.util.Arrays;
import java.util.HashSet;
import java.util.List;
import java.util.Map;
import java.util.Set;

/**
 * Promise 8: the FAULT of every row of tokens up to a length, by the document's grammar as it is written there.
 * A row of symbols that are still to come stands for a way to read on; a token that no way takes is the FAULT.
 */
public final class FaultPlacesTest {
    private static final String[] TOKENS = {"7", "hour", "-", "(", ")", "not", "<", "=", "+", "*", "or", "and", ";",
        "comes", "worth", "costs", "x", "12345", "$"};
    private static final String[] OPENING = {"(", "not", "-"};
    private static final int MOST_OPEN = 5, LENGTH = 6, DEEP_LENGTH = 5;

    /** A symbol with ! ahead opens one of those of which 5 may be open; # is where it ends. */
    private static final Map<String, String[]> GRAMMAR = Map.ofEntries(
            Map.entry("TEXT", new String[] {"comes E ; worth E ; costs E ;"}),
            Map.entry("E", new String[] {"AND ORS"}),
            Map.entry("ORS", new String[] {"", "or AND ORS"}),
            Map.entry("AND", new String[] {"NOT ANDS"}),
            Map.entry("ANDS", new String[] {"", "and NOT ANDS"}),
            Map.entry("NOT", new String[] {"!not NOT #", "SUM LIKE"}),
            Map.entry("LIKE", new String[] {"", "< SUM", "= SUM"}),
            Map.entry("SUM", new String[] {"TERM SUMS"}),
            Map.entry("SUMS", new String[] {"", "+ TERM SUMS", "- TERM SUMS"}),
            Map.entry("TERM", new String[] {"ONE TERMS"}),
            Map.entry("TERMS", new String[] {"", "* ONE TERMS"}),
            Map.entry("ONE", new String[] {"7", "hour", "!- ONE #", "!( E ) #"}));

    private final AtTheDoor door = new AtTheDoor();
    private int tried = 0;
    private int wrong = 0;

    private static Set<List<String>> behind(Set<List<String>> ways, String token) {
        Set<List<String>> next = new HashSet<>();
        for (List<String> way : ways) {
            take(way, token, next);
        }
        return next;
    }

    private static void take(List<String> way, String token, Set<List<String>> next) {
        if (way.isEmpty()) {
            return;
        }
        String first = way.get(0);
        List<String> rest = way.subList(1, way.size());
        if (first.equals("#")) {
            take(rest, token, next);
        } else if (GRAMMAR.containsKey(first)) {
            for (String form : GRAMMAR.get(first)) {
                List<String> written = new ArrayList<>(form.isEmpty() ? List.of() : Arrays.asList(form.split(" ")));
                written.addAll(rest);
                take(written, token, next);
            }
        } else if (first.equals(token)) {
            next.add(rest);
        } else if (first.equals("!" + token) && rest.stream().filter(s -> s.equals("#")).count() <= MOST_OPEN) {
            // Its own # stands in the rest already: the others are those that are open ahead of it.
            next.add(rest);
        }
    }

    private void due(String text, int want) {
        for (int i = 0; i < text.length(); i++) {
            door.feed(text.charAt(i));
        }
        int got = door.text();
        tried++;
        if (got != want) {
            wrong++;
            if (wrong < 20) {
                System.out.println("text of '" + text + "' answered " + got + ", due is " + want);
            }
        }
    }

    /** No text that is tried here is whole: what has no FAULT within ends too early. */
    private void tryAll(String text, Set<List<String>> ways, int more) {
        for (String token : TOKENS) {
            Set<List<String>> next = behind(ways, token);
            String longer = text + " " + token;
            if (next.contains(List.of())) {
                continue;
            }
            due(longer, -100 - (next.isEmpty() ? text.length() + 1 : longer.length()));
            if (!next.isEmpty() && more > 1) {
                tryAll(longer, next, more - 1);
            }
        }
    }

    /** Nearly as many are open as may be. */
    private void tryDeep(String text, Set<List<String>> ways, int opened) {
        if (opened == MOST_OPEN - 1) {
            tryAll(text, ways, DEEP_LENGTH);
            return;
        }
        for (String token : OPENING) {
            Set<List<String>> next = behind(ways, token);
            if (!next.isEmpty()) {
                tryDeep(text + " " + token, next, opened + 1);
            }
        }
    }

    private void tryEachPart() {
        Set<List<String>> ways = Set.of(List.of("TEXT"));
        String text = "";
        for (String token : "comes 7 ; worth 7 ; costs 7 ;".split(" ")) {
            tryAll(text, ways, 2);
            ways = behind(ways, token);
            text = text + " " + token;
        }
        for (String token : TOKENS) {
            due(text + " " + token, -100 - (text.length() + 1));
        }
    }

    public static void main(String[] args) {
        FaultPlacesTest test = new FaultPlacesTest();
        Set<List<String>> ways = behind(Set.of(List.of("TEXT")), "comes");
        test.tryAll("comes", ways, LENGTH);
        test.tryDeep("comes", ways, 0);
        test.tryEachPart();
        System.out.println(test.tried + " texts, " + test.wrong + " are not as due");
        // A grammar that is written down wrong would try next to nothing.
        if (test.wrong != 0 || test.tried < 100000) {
            System.exit(1);
        }
    }
}
