import java.lang.reflect.Method;
import java.nio.charset.StandardCharsets;
import java.nio.file.Files;
import java.nio.file.Path;
import java.util.ArrayList;
import java.util.Arrays;
import java.util.List;
import java.util.regex.Matcher;
import java.util.regex.Pattern;

/**
 * The document, word by word: a test quotes the words that it holds the program to, and at the end no word of the
 * Terms and of the promises may be left that no test has quoted.
 */
final class Doc {
    private static final Path FILE = Path.of("../shared/DOC.md");
    private static final Pattern FACE =
        Pattern.compile("## Promise \\d+: [\\w ]+ `(?:(int|boolean) )?(\\w+)\\(([^)]*)\\)`:");

    private final Due due = new Due();
    private final String text;
    private final boolean[] quoted;
    private int from;
    private int to;
    private String quote = "nothing";
    private int checks = 1;

    Doc() throws Exception {
        // The answers are due without the document, too; then only what is quoted is not looked up.
        text = Files.exists(FILE) ? Files.readString(FILE, StandardCharsets.UTF_8).replaceAll("\\s+", " ") : null;
        if (text == null) {
            System.out.println("There is no " + FILE + ": words are not looked up.");
            quoted = new boolean[0];
            return;
        }
        quoted = new boolean[text.length()];
        strike(0, text.indexOf("An object is used for"));
        strike(text.indexOf("## The public face"), text.indexOf("## Terms"));
        strike(text.indexOf("## Not promised"), text.length());
        for (String sign : new String[] {"## Terms", "==== 1.", "==== 2.", "==== 3.", "==== 4.", "```text"}) {
            for (int at = text.indexOf(sign); at >= 0; at = text.indexOf(sign, at + 1)) {
                strike(at, at + sign.length());
            }
        }
        Matcher m = FACE.matcher(text);
        while (m.find()) {
            due.is("the face: " + m.group(2), true, isThere(m.group(1), m.group(2), m.group(3)));
            strike(m.start(), m.end());
        }
    }

    private static boolean isThere(String type, String name, String parameters) {
        if (type == null) {
            return name.equals("SinglesUp") && SinglesUp.class.getConstructors()[0].getParameterCount() == 0;
        }
        List<String> types = new ArrayList<>();
        for (Method m : SinglesUp.class.getMethods()) {
            if (m.getName().equals(name)) {
                types.add(m.getReturnType() + " " + Arrays.toString(m.getParameterTypes()));
            }
        }
        String told = parameters.replaceAll(" \\w+(?=,|$)", "");
        return types.equals(List.of(type + " [" + told + "]"));
    }

    private void strike(int first, int end) {
        Arrays.fill(quoted, first, end, true);
    }

    /** The tests that come now are of the words from this heading to the next. */
    void section(String heading) {
        if (text == null) {
            return;
        }
        from = text.indexOf(heading);
        int next = text.indexOf("## ", from + heading.length());
        int part = text.indexOf("==== ", from + heading.length());
        to = part >= 0 && part < next ? part : next;
        due.is("the document has the heading " + heading, true, from >= 0 && to > from);
    }

    void promise(int n) {
        section("## Promise " + n + ":");
    }

    /** The answers that come now are due by these words. */
    void says(String words) {
        due.is("a test of: " + quote, true, checks > 0);
        quote = words;
        checks = 0;
        if (text == null) {
            return;
        }
        int at = text.indexOf(words, from);
        while (at >= 0 && at + words.length() <= to && quoted[at]) {
            at = text.indexOf(words, at + 1);
        }
        due.is("the document says (here, and not quoted yet): " + words, true, at >= 0 && at + words.length() <= to);
        if (at >= 0) {
            strike(at, at + words.length());
        }
    }

    void is(String call, long want, long got) {
        checks++;
        due.is("\"" + quote + "\": " + call, want, got);
    }

    void is(String call, boolean want, boolean got) {
        is(call, want ? 1 : 0, got ? 1 : 0);
    }

    /** The numbers of those who sat on the chair that went last, in their order. */
    void sat(String call, SinglesUp x, int... numbers) {
        is(call + ": how many groups sat", numbers.length, x.last(0));
        for (int i = 0; i < numbers.length; i++) {
            is(call + ": the " + i + "th that sat", numbers[i], x.last(10 + i));
        }
    }

    /** The numbers of those who stand in a LINE, from its front. */
    void stand(String call, SinglesUp x, int line, int... numbers) {
        is(call + ": how many stand in LINE " + line, numbers.length, x.line(line, 0));
        for (int i = 0; i < numbers.length; i++) {
            is(call + ": who stands in LINE " + line + " at " + i, numbers[i], x.group(line, i, 0));
        }
    }

    /** An object whose RULE 0 is this text; plain groups of these SIZES have come. */
    static SinglesUp ruled(String rule, int... sizes) {
        SinglesUp x = new SinglesUp();
        Due.tell(x, 0, rule);
        came(x, sizes);
        return x;
    }

    static void came(SinglesUp x, int... sizes) {
        for (int size : sizes) {
            x.come(size, size, 0);
        }
    }

    static String times(String text, int n) {
        StringBuilder all = new StringBuilder();
        for (int i = 0; i < n; i++) {
            all.append(text);
        }
        return all.toString();
    }

    void end(String name) {
        due.is("a test of: " + quote, true, checks > 0);
        int i = 0;
        while (i < quoted.length) {
            int first = i;
            boolean words = false;
            while (i < quoted.length && !quoted[i]) {
                words |= Character.isLetterOrDigit(text.charAt(i));
                i++;
            }
            if (words) {
                due.is("untested: " + text.substring(first, i), 0, 1);
            }
            i++;
        }
        due.end(name);
    }
}
