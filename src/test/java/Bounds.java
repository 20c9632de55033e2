import java.io.IOException;
import java.io.UncheckedIOException;
import java.nio.charset.StandardCharsets;
import java.nio.file.Files;
import java.nio.file.Path;
import java.util.LinkedHashMap;
import java.util.Map;

/**
 * What the tests of boundary sentences share. Each test is named by a part of the document and by words of it, which
 * must stand there; in the end each sentence of the sections 1 to 7 and of the promises must have a test, or be told
 * to name no boundary.
 */
final class Bounds {
    static final String INDEX = "throws.IndexOutOfBoundsException";
    static final String ARGUMENT = "throws.IllegalArgumentException";
    static final String STATE = "throws.IllegalStateException";
    static final String ELEMENT = "throws.NoSuchElementException";
    /** So many refused calls on one yard, so that it is used for less than 512 calls with its recipe and witness. */
    private static final int REFUSED_AT_ONCE = 40;

    private static final Map<String, String> PARTS = readParts();
    private static final Map<String, boolean[]> TOUCHED = new LinkedHashMap<>();
    private static int tests = 0;

    /** Makes the same yard each time. */
    interface Recipe {
        SlipwayYard make();
    }

    /** A call, and perhaps more calls that show what came of it. */
    interface Ask {
        Object of(SlipwayYard yard);
    }

    /** A call with one number that is looked at. */
    interface AskInt {
        Object of(SlipwayYard yard, int value);
    }

    /** A call with several numbers. */
    interface AskAll {
        Object of(SlipwayYard yard, int[] values);
    }

    private Bounds() {
    }

    /** The words on the use, the sections ("Section 3") and the promises ("Promise 7"), each as one line. */
    private static Map<String, String> readParts() {
        Map<String, String> parts = new LinkedHashMap<>();
        String document;
        try {
            document = Files.readString(Path.of("../shared/DOC.md"), StandardCharsets.UTF_8);
        } catch (IOException e) {
            throw new UncheckedIOException(e);
        }
        String use = document.substring(document.indexOf("\nAn object is used"), document.indexOf("\n## The public face"));
        parts.put("What it is", oneLine(use));
        String terms = document.substring(document.indexOf("## Terms"), document.indexOf("\n## Promise 1:"));
        for (String part : terms.split("\n(?=[1-7]\\. )")) {
            if (!part.startsWith("##")) {
                parts.put("Section " + part.charAt(0), oneLine(part.substring(part.indexOf('\n'))));
            }
        }
        String promises = document.substring(document.indexOf("\n## Promise 1:"), document.indexOf("\n## Not promised"));
        for (String part : promises.split("\n(?=## Promise )")) {
            if (part.startsWith("## Promise ")) {
                parts.put(part.substring(3, part.indexOf(':')), oneLine(part.substring(part.indexOf('\n'))));
            }
        }
        return parts;
    }

    /** Paragraphs and lines of a list are divided by a bar. */
    private static String oneLine(String text) {
        return text.trim().replaceAll("\n\n|\n(?=- )", "|").replaceAll("\\s+", " ");
    }

    private static void touch(String part, String words) {
        String text = PARTS.get(part);
        int at = text == null ? -1 : text.indexOf(words);
        Due.holds(part + " says: " + words, at >= 0);
        if (at >= 0) {
            boolean[] touched = TOUCHED.computeIfAbsent(part, name -> new boolean[PARTS.get(name).length()]);
            for (int k = at; k < at + words.length(); k++) {
                touched[k] = true;
            }
        }
    }

    /** A test of some words of a part of the document. */
    static void of(String part, String words, Runnable test) {
        touch(part, words);
        tests++;
        Due.about(part + ", '" + words + "': ");
        test.run();
        Due.about("");
    }

    /** These words name no boundary. */
    static void none(String part, String words) {
        touch(part, words);
    }

    /** Tells each sentence that has no test. */
    static void end() {
        Due.is("the use, the sections and the promises", 1 + 7 + 46, PARTS::size);
        for (Map.Entry<String, String> part : PARTS.entrySet()) {
            boolean[] touched = TOUCHED.getOrDefault(part.getKey(), new boolean[part.getValue().length()]);
            int from = 0;
            for (String sentence : part.getValue().split("(?<=\\.) |\\|")) {
                from = part.getValue().indexOf(sentence, from);
                boolean isTouched = false;
                for (int k = from; k < from + sentence.length(); k++) {
                    isTouched |= touched[k];
                }
                Due.holds(part.getKey() + " has a test of: " + sentence, isTouched);
            }
        }
        System.out.println(tests + " tests of words of the document");
    }

    /** An answer on a new yard of the recipe. */
    static void answers(String what, Object due, Recipe recipe, Ask ask) {
        SlipwayYard yard = recipe.make();
        Due.is(what, due, () -> ask.of(yard));
    }

    /** A call that throws, and changes nothing. */
    static void refuses(String what, String thrown, Recipe recipe, Ask ask) {
        SlipwayYard yard = recipe.make();
        Due.is(what, thrown, () -> ask.of(yard));
        Due.is("what can be seen behind the refused " + what, Witness.of(recipe.make()), () -> Witness.of(yard));
    }

    /** A number that must lie in a range: those outside are refused, also the farthest ones. */
    static void outside(String what, int least, int greatest, String thrown, Recipe recipe, AskInt ask) {
        int[] values = {least - 1, greatest + 1, Integer.MIN_VALUE, Integer.MAX_VALUE, least - 256, greatest + 65536};
        for (int value : values) {
            refuses(what + " of " + value, thrown, recipe, x -> ask.of(x, value));
        }
    }

    /** A number that must lie in a range: what is due for the least and for the greatest one, and none outside. */
    static void range(String what, int least, Object dueOfLeast, int greatest, Object dueOfGreatest, String thrown,
            Recipe recipe, AskInt ask) {
        answers(what + " of the least, " + least, dueOfLeast, recipe, x -> ask.of(x, least));
        answers(what + " of the greatest, " + greatest, dueOfGreatest, recipe, x -> ask.of(x, greatest));
        outside(what, least, greatest, thrown, recipe, ask);
    }

    /** A number of something that exists: the last one is taken, none beyond. */
    static void exists(String what, int count, Recipe recipe, AskInt ask) {
        outside(what, 0, count - 1, INDEX, recipe, ask);
    }

    /**
     * All ways in which some of the numbers are wrong, and the state is fine or is not: the exception that is listed
     * first is thrown. The first so many numbers are of things that must exist, the others arguments.
     */
    static void order(String what, int[] fine, int[][] wrong, int things, Recipe recipe, String stateThrown,
            Recipe recipeOfState, AskAll ask) {
        int ways = 1;
        for (int[] values : wrong) {
            ways *= values.length + 1;
        }
        // the way 0 has no wrong number
        orderOn(what, fine, wrong, things, recipe, null, 1, ways, ask);
        if (stateThrown != null) {
            orderOn(what + " in a state that forbids it", fine, wrong, things, recipeOfState, stateThrown, 0, ways, ask);
        }
    }

    private static void orderOn(String what, int[] fine, int[][] wrong, int things, Recipe recipe, String stateThrown,
            int fromWay, int ways, AskAll ask) {
        String untouched = Witness.of(recipe.make());
        for (int from = fromWay; from < ways; from += REFUSED_AT_ONCE) {
            SlipwayYard yard = recipe.make();
            for (int way = from; way < Math.min(ways, from + REFUSED_AT_ONCE); way++) {
                int[] values = fine.clone();
                String due = stateThrown;
                int rest = way;
                for (int k = 0; k < wrong.length; k++) {
                    int choice = rest % (wrong[k].length + 1);
                    rest /= wrong[k].length + 1;
                    if (choice > 0) {
                        values[k] = wrong[k][choice - 1];
                        due = k < things ? INDEX : INDEX.equals(due) ? INDEX : ARGUMENT;
                    }
                }
                Due.is(what + java.util.Arrays.toString(values), due, () -> ask.of(yard, values));
            }
            Due.is("what can be seen behind the refused calls of " + what, untouched, () -> Witness.of(yard));
        }
    }
}
