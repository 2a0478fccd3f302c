import java.lang.management.ManagementFactory;
import java.lang.reflect.Constructor;
import java.lang.reflect.Field;
import java.lang.reflect.Method;
import java.lang.reflect.Modifier;
import java.nio.charset.StandardCharsets;
import java.nio.file.Files;
import java.nio.file.Path;
import java.util.ArrayList;
import java.util.HashMap;
import java.util.List;
import java.util.Map;
import java.util.Set;
import java.util.TreeSet;
import java.util.regex.Matcher;
import java.util.regex.Pattern;

/** What can be seen of ../shared/LANGUAGE.md from outside: the face, the words, the lengths, the calls, the room. */
public final class LanguageTest {
    private static final String FACE = "state(int) set(int,int) seen(int,int) parts(int,int) comer(int,int,int,int,int)"
        + " feed(int,int,int,int,int) end(int) text(int) fault(int) come(int,int,int) group(int,int,int) line(int,int)"
        + " pick(int,int) send() chair() run(int) last(int) count(int) best(int) look(int) heap(int,int) fewest(int)"
        + " thought(int,int,int,int,int) price(int,int) till(int,int) together(int,int,int,int,int) needed(int)"
        + " past(int,int) which(int,int) folded(int,int,int) image(boolean) told(int)";
    private static final Set<String> BOOLEANS = Set.of("set", "seen", "parts", "comer", "end", "heap", "image");
    private static final Pattern METHOD = Pattern.compile(
        "^( +)(?:(?:public|private|static|final) )*(?:[\\w\\[\\]]+ )?(\\w+)\\(([^()]*)\\) \\{$");

    private static final Due due = new Due();

    public static void main(String[] args) throws Exception {
        String source = Files.readString(Path.of("src/main/java/SinglesUp.java"), StandardCharsets.ISO_8859_1);
        face();
        words(source);
        lengths(source.split("\n"));
        depth(source.split("\n"));
        room();
        due.end("LanguageTest");
    }

    private static void none(String call, boolean there) {
        due.is("language: " + call, false, there);
    }

    private static void face() {
        Set<String> methods = new TreeSet<>();
        Class<?> face = SinglesUp.class;
        for (Method m : face.getDeclaredMethods()) {
            if (Modifier.isPrivate(m.getModifiers())) {
                none("private " + m.getName() + " bears a public name", (" " + FACE).contains(" " + m.getName() + "("));
                continue;
            }
            StringBuilder told = new StringBuilder(m.getName()).append("(");
            for (Class<?> p : m.getParameterTypes()) {
                told.append(told.charAt(told.length() - 1) == '(' ? "" : ",").append(p.getName());
            }
            methods.add(told.append(")").toString());
            none(m.getName() + " is not public", !Modifier.isPublic(m.getModifiers()));
            none(m.getName() + " answers another type",
                m.getReturnType() != (BOOLEANS.contains(m.getName()) ? boolean.class : int.class));
        }
        none("another face: " + methods, !methods.equals(new TreeSet<>(List.of(FACE.split(" ")))));
        for (Field f : face.getDeclaredFields()) {
            none("field " + f.getName(), !Modifier.isPrivate(f.getModifiers()) && !f.getName().equals("NONE"));
            none("static field " + f.getName() + " not final",
                Modifier.isStatic(f.getModifiers()) && !Modifier.isFinal(f.getModifiers()));
        }
        for (Constructor<?> c : face.getDeclaredConstructors()) {
            none("constructor " + c, !Modifier.isPublic(c.getModifiers()) || c.getParameterCount() != 0);
        }
        Class<?>[] inside = face.getDeclaredClasses();
        none("classes: " + inside.length, inside.length > 11);
        for (Class<?> c : inside) {
            none(c + " not static", !Modifier.isStatic(c.getModifiers()));
            int fields = 0;
            for (Field f : c.getDeclaredFields()) {
                fields += Modifier.isStatic(f.getModifiers()) ? 0 : 1;
            }
            none(c + " has " + fields + " fields", fields > 20);
            for (Method m : c.getDeclaredMethods()) {
                none(m + " bears a public name", (" " + FACE).contains(" " + m.getName() + "("));
            }
        }
    }

    private static String bare(String source) {
        return source.replaceAll("(?s)/\\*.*?\\*/", "").replaceAll("//[^\n]*", "").replaceAll("\"[^\"\n]*\"", "\"\"")
            .replaceAll("'[^'\n]+'", "''");
    }

    private static void words(String source) {
        for (char c : source.toCharArray()) {
            if (c > 126 || c < 32 && c != '\n') {
                none("sign " + (int) c, true);
            }
        }
        String bare = bare(source);
        String[] words = {"throw", "throws", "try", "catch", "finally", "synchronized", "assert", "goto", "volatile",
            "transient", "native", "package", "protected", "double", "float", "Object", "Exception", "System.out",
            "equals", "hashCode", "toString", "Math.\\w+Exact", "import java.(?!util.Arrays;).*", "static \\{", "->", "::",
            "public (?!final class SinglesUp|static final int NONE|SinglesUp\\(|int |boolean ).*"};
        for (String word : words) {
            String edge = Character.isLetter(word.charAt(word.length() - 1)) ? "\\b" : "";
            Matcher m = Pattern.compile((Character.isLetter(word.charAt(0)) ? "\\b" : "") + word + edge).matcher(bare);
            none("word " + word, m.find());
        }
        for (String line : bare.split("\n")) {
            // Rows are made with the object, and used again.
            boolean kept = line.matches(" +private (static )?final .*") || line.matches(" +laws\\[i\\] = new Law\\(\\);");
            none("made later: " + line.trim(), line.matches(".*\\bnew\\b.*") && !kept);
            none("long line: " + line.trim(), line.length() > 120);
        }
    }

    private static void lengths(String[] lines) {
        String end = null;
        String name = null;
        int from = 0;
        for (int i = 0; i < lines.length; i++) {
            Matcher m = METHOD.matcher(lines[i]);
            if (end == null && m.matches()) {
                name = m.group(2);
                end = m.group(1) + "}";
                from = i;
                String parameters = m.group(3).trim();
                none(name + " has many parameters", parameters.split(",").length > 7);
            } else if (lines[i].equals(end)) {
                none(name + " is long", i - from + 1 > 60);
                end = null;
            }
        }
    }

    /** Calls by name, as deep as they go; those of a ring (a recursion) count once each. */
    private static void depth(String[] lines) {
        Map<String, StringBuilder> bodies = new HashMap<>();
        String end = null;
        StringBuilder body = null;
        for (String line : lines) {
            Matcher m = METHOD.matcher(line);
            if (end == null && m.matches()) {
                end = m.group(1) + "}";
                body = bodies.computeIfAbsent(m.group(2), k -> new StringBuilder());
            } else if (line.equals(end)) {
                end = null;
            } else if (end != null) {
                body.append(bare(line)).append('\n');
            }
        }
        Map<String, List<String>> calls = new HashMap<>();
        for (Map.Entry<String, StringBuilder> e : bodies.entrySet()) {
            Set<String> called = new TreeSet<>();
            Matcher m = Pattern.compile("(\\w+)\\(").matcher(e.getValue());
            while (m.find()) {
                if (bodies.containsKey(m.group(1))) {
                    called.add(m.group(1));
                }
            }
            calls.put(e.getKey(), new ArrayList<>(called));
        }
        none("too few methods seen", calls.size() < 100);
        for (String name : FACE.replaceAll("\\([^)]*\\)", "").split(" ")) {
            int deep = deep(name, calls, new ArrayList<>());
            none(name + " goes " + deep + " calls deep", deep > 8);
        }
    }

    private static int deep(String name, Map<String, List<String>> calls, List<String> open) {
        if (open.contains(name)) {
            return 0;
        }
        open.add(name);
        int most = 0;
        for (String called : calls.get(name)) {
            most = Math.max(most, deep(called, calls, open));
        }
        open.remove(open.size() - 1);
        return most + 1;
    }

    /** What 480 calls make is counted, all classes being loaded by then. */
    private static void room() {
        com.sun.management.ThreadMXBean bean = (com.sun.management.ThreadMXBean) ManagementFactory.getThreadMXBean();
        long thread = Thread.currentThread().getId();
        calls(new SinglesUp(), 3);
        long before = bean.getThreadAllocatedBytes(thread);
        SinglesUp x = new SinglesUp();
        long made = bean.getThreadAllocatedBytes(thread);
        calls(x, 40);
        long after = bean.getThreadAllocatedBytes(thread);
        none("an object takes " + (made - before) + " bytes", made - before > 200000);
        none("its calls take " + (after - made) + " bytes", after - made > 20000);
    }

    private static void calls(SinglesUp x, int n) {
        x.comer(0, 3, 1, 3, 1000);
        x.comer(1, 2, 2, 0, 1000);
        for (int i = 0; i < n; i++) {
            x.feed(0x74616b65, 0x20382d70, 0x6c616365, 0x202b7061, 0x73736564);
            x.feed(0x20776865, 0x6e202873, 0x697a653c, 0x34293b20, 0x20202020);
            x.text(i % 4);
            x.run(20);
            x.which(20, 0);
            x.till(0, 30);
            x.together(0, 1, 0, 3, 1);
            x.heap(i % 8 + 1, 1);
            x.fewest(0);
            x.best(0);
            x.look(0);
            x.image(i % 2 == 0);
        }
    }
}
