import java.io.IOException;
import java.lang.reflect.Method;
import java.nio.file.Files;
import java.nio.file.Path;
import java.util.regex.Matcher;
import java.util.regex.Pattern;

/** Holds what the tests say they hold the class to against the document: it stands there, and no words of it are left without a test. */
final class DocTests {
    static final int PROMISES = 40;

    private DocTests() {
    }

    static String document() {
        try {
            return Files.readString(Path.of(Tests.document));
        } catch (IOException e) {
            throw new AssertionError(e);
        }
    }

    private static String even(String text) {
        return text.replace("```text", " ").replace("```", " ").replaceAll("\\s+", " ").trim();
    }

    /** Part 0: all ahead of the promises. Part n: promise n, behind what its call looks like. */
    private static String part(int promise) {
        String all = document();
        if (promise == 0) {
            return even(all.substring(0, all.indexOf("## Promise 1:")));
        }
        Matcher m = Pattern.compile("(?s)## Promise " + promise + ": [^\n]*\n\n`[^`]*`: (.*?)\n\n## ").matcher(all);
        if (!m.find()) {
            throw new AssertionError("no promise " + promise);
        }
        return even(m.group(1));
    }

    static void whatTheTestsSayStandsInTheDocument() {
        int quotes = 0;
        for (Class<?> group : Tests.GROUPS) {
            for (Method method : group.getDeclaredMethods()) {
                Says says = method.getAnnotation(Says.class);
                for (String quote : says == null ? new String[0] : says.value()) {
                    Check.due(group.getSimpleName() + "." + method.getName() + ": " + quote, true, part(says.promise()).contains(quote));
                    quotes++;
                }
            }
        }
        Check.due("there are quotes", true, quotes > PROMISES);
    }

    static void noWordsAreLeftWithoutATest() {
        for (int promise = 0; promise <= PROMISES; promise++) {
            String left = left(promise);
            if (promise == 0) {
                // The Terms alone: what is ahead of them says the same in fewer words, or shows the face.
                left = left.substring(left.indexOf("## Terms") + 8).replaceAll("==== [234]\\.", "");
            }
            Check.due("words of part " + promise + " without a test: " + left.trim(), true, left.isBlank());
        }
    }

    /** What is left of a part without all that the tests say. */
    private static String left(int promise) {
        String part = part(promise);
        char[] left = part.toCharArray();
        for (Class<?> group : Tests.GROUPS) {
            for (Method method : group.getDeclaredMethods()) {
                Says says = method.getAnnotation(Says.class);
                if (says != null && says.promise() == promise) {
                    for (String quote : says.value()) {
                        int at = part.indexOf(quote);
                        for (int i = 0; at >= 0 && i < quote.length(); i++) {
                            left[at + i] = ' ';
                        }
                    }
                }
            }
        }
        return new String(left);
    }
}
