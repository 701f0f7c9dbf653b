import java.util.LinkedHashMap;
import java.util.Map;
import java.util.function.Supplier;
import java.util.function.ToIntFunction;

/**
 * The document, sentence by sentence. A test says the words that it is for ahead of its calls; they
 * must stand in the document, and at the end no word of it may be left that no test has said.
 */
final class Sentences {
    private final Check check;
    private final Map<String, String> sections = new LinkedHashMap<>();
    private final Map<String, boolean[]> said = new LinkedHashMap<>();
    private String now = "";

    Sentences(Check check, String document) {
        this.check = check;
        for (String part : document.split("(?m)^## ")) {
            String name = part.replaceAll("(?s)[:\n].*", "");
            if (name.matches("What it is|Terms|Promise \\d+")) {
                String words = tidied(part.substring(part.indexOf('\n')));
                sections.put(name, words);
                said.put(name, new boolean[words.length()]);
            }
        }
        check.due("parts of the document", sections.size(), 31);
    }

    /** Without what promises nothing by itself: the summary, fences, signatures, headings. */
    private static String tidied(String part) {
        return part.replaceAll("(?s)^.*?(?=======+ 1 SISTERS)", "")
                .replaceAll("(?m)^```\\w*$", " ")
                .replaceAll("(?m)^Ahead of the calls .*$", " ")
                .replaceAll("(?m)^`[^`]*`:", " ")
                .replaceAll("\\s+", " ");
    }

    /** The calls from here on are for these words. */
    void says(String section, String words) {
        now = section + ", '" + words + "'";
        also(section, words);
    }

    void says(int promise, String words) {
        says("Promise " + promise, words);
    }

    /** The sentence goes on with these words, in another part of the document. */
    void also(String section, String words) {
        String all = sections.getOrDefault(section, "");
        int at = all.indexOf(words);
        if (at < 0 || all.indexOf(words, at + 1) >= 0) {
            check.fail(section + " has not just once: '" + words + "'");
            return;
        }
        java.util.Arrays.fill(said.get(section), at, at + words.length(), true);
    }

    /** No word or number of the document is left that no test has said. */
    void allAreSaid() {
        for (String section : sections.keySet()) {
            StringBuilder left = new StringBuilder();
            for (int i = 0; i < said.get(section).length; i++) {
                left.append(said.get(section)[i] ? '|' : sections.get(section).charAt(i));
            }
            for (String words : left.toString().split("\\|+")) {
                if (words.matches(".*[A-Za-z0-9].*")) {
                    check.fail("no test is for " + section + ", '" + words + "'");
                }
            }
        }
    }

    void due(String call, long got, long want) {
        check.due(now + ": " + call, got, want);
    }

    void same(String what, String got, String want) {
        if (!got.equals(want)) {
            check.fail(now + ": " + what + " is " + got + ", due is " + want);
        }
    }

    /** The call is refused, and the object answers behind it as its twin that was never asked. */
    void refused(String call, Supplier<SieveTub> made, ToIntFunction<SieveTub> put, int want) {
        due(call, put.applyAsInt(made.get()), want);
        changesNothing(call, made, put);
    }

    void changesNothing(String call, Supplier<SieveTub> made, ToIntFunction<SieveTub> put) {
        SieveTub asked = made.get();
        put.applyAsInt(asked);
        same("what " + call + " left", Probe.usedUp(asked), Probe.usedUp(made.get()));
    }

    /** A call with one of its numbers left open. */
    interface Open {
        int put(SieveTub tub, int number);
    }

    /** The call is refused with the first number below the least, above the most, and the furthest. */
    void refusedAround(String call, Supplier<SieveTub> made, int least, int most, Open open, int want) {
        for (int number : new int[] {Integer.MIN_VALUE, least - 1, most + 1, Integer.MAX_VALUE}) {
            refused(call + " of " + number, made, tub -> open.put(tub, number), want);
        }
    }

    /** A new object, told the text, which must have no fault, answers so. */
    void told(String text, String call, ToIntFunction<SieveTub> put, int want) {
        takes(text);
        due("of '" + text + "', " + call, put.applyAsInt(Check.tell(text)), want);
    }

    void takes(String text) {
        due("fault() of '" + text + "'", written(text).fault(), SieveTub.NONE);
        due("well() of '" + text + "' is refused", written(text).well() > 0 ? 0 : 1, 0);
    }

    void faults(String text, int place) {
        due("fault() of '" + text + "'", written(text).fault(), place);
        refused("well() of '" + text + "'", () -> written(text), SieveTub::well, SieveTub.NOT);
    }

    static SieveTub written(String text) {
        SieveTub tub = new SieveTub();
        Check.write(tub, text);
        return tub;
    }
}
