import java.io.IOException;
import java.io.PrintWriter;
import java.io.StringWriter;
import java.lang.reflect.Constructor;
import java.lang.reflect.Field;
import java.lang.reflect.Member;
import java.lang.reflect.Method;
import java.lang.reflect.Modifier;
import java.nio.file.Files;
import java.nio.file.Path;
import java.util.ArrayList;
import java.util.Arrays;
import java.util.List;
import java.util.Map;
import java.util.Set;
import java.util.TreeMap;
import java.util.TreeSet;
import java.util.regex.Matcher;
import java.util.regex.Pattern;
import java.util.spi.ToolProvider;

/** The rules of LANGUAGE.md and the document's face, as far as a machine can look at them. */
public final class LanguageTest {
    private static final Path SOURCE = Path.of("src/main/java/MagpieAccounts.java");
    private static final Path DOCUMENT = Path.of("../shared/DOC.md");
    private static final Set<String> LIBRARY = Set.of("Arrays.fill", "Arrays.copyOf", "Arrays.copyOfRange", "System.arraycopy",
        "Math.min", "Math.max", "Math.abs", "Math.floorDiv", "Math.floorMod", "Integer.bitCount", "Integer.compare", "Long.compare",
        "RANK_ROWS.charAt", "RANK_ROWS.length", "WORDS.charAt", "SIGNS.indexOf");
    private static int wrong = 0;

    private static void fault(String what) {
        wrong++;
        System.out.println(what);
    }

    public static void main(String[] args) throws IOException {
        String source = Files.readString(SOURCE);
        String bare = withoutCommentsAndTexts(source);
        signs(source);
        words(bare);
        imports(bare);
        library(bare);
        lengths(bare);
        face();
        members();
        depths();
        System.out.println(wrong == 0 ? "the rules are kept" : wrong + " rules are broken");
        if (wrong != 0) System.exit(1);
    }

    private static String withoutCommentsAndTexts(String source) {
        return source.replaceAll("(?s)/\\*.*?\\*/", "").replaceAll("//[^\n]*", "").replaceAll("\"[^\"]*\"", "\"\"");
    }

    private static void signs(String source) {
        for (int i = 0; i < source.length(); i++) {
            char c = source.charAt(i);
            if (c < 1 || c > 127) fault("rule 4: the sign " + (int) c + " at " + i);
        }
    }

    private static void words(String bare) {
        String[] banned = {"throw", "throws", "try", "catch", "synchronized", "assert", "hashCode", "toString", "native", "volatile",
            "double", "float", "Object", "Thread", "Random", "currentTimeMillis", "nanoTime", "\\w+Exact", "package"};
        for (String word : banned) {
            if (Pattern.compile("\\b" + word + "\\b").matcher(bare).find()) fault("rule 3, 4, 6 or 13: " + word);
        }
        if (bare.contains("->") || bare.contains("::")) fault("rule 2: a lambda or a method reference");
        if (Pattern.compile("static\\s*\\{").matcher(bare).find()) fault("rule 5: a static block");
        if (Pattern.compile("\"\"\\s*\\+|\\+\\s*\"\"").matcher(bare).find()) fault("rule 10: texts joined by +");
        if (Pattern.compile("while\\s*\\(\\s*true|for\\s*\\(\\s*;\\s*;").matcher(bare).find()) fault("rule 9: a loop without an end");
    }

    private static void imports(String bare) {
        Matcher m = Pattern.compile("import\\s+([\\w.*]+)").matcher(bare);
        while (m.find()) {
            if (!Set.of("java.util.Arrays", "java.util.ArrayList", "java.util.List").contains(m.group(1))) fault("rule 4: import " + m.group(1));
        }
    }

    private static void library(String bare) {
        Matcher m = Pattern.compile("\\b([A-Z]\\w*\\.\\w+)\\s*\\(").matcher(bare);
        while (m.find()) {
            if (!LIBRARY.contains(m.group(1))) fault("rule 4: " + m.group(1));
        }
        m = Pattern.compile("\\b(?:Integer|Long|Math|Arrays|System)\\.\\w+\\b(?!\\s*\\()").matcher(bare);
        while (m.find()) fault("rule 4: " + m.group());
    }

    // A method ends at the brace of its own depth.
    private static void lengths(String bare) {
        String[] lines = bare.split("\n");
        Pattern head = Pattern.compile("^( {4}| {8})(?! )(?!.*\\b(class|enum|record|interface|if|for|while|switch)\\b)[\\w\\[\\]<> ]+\\([^;]*\\) \\{$");
        for (int i = 0; i < lines.length; i++) {
            Matcher m = head.matcher(lines[i]);
            if (!m.find()) continue;
            int end = i;
            while (!lines[end].equals(m.group(1) + "}")) end++;
            if (end - i > 60) fault("rule 11: " + (end - i) + " lines from " + (i + 1));
        }
    }

    // The lines of the document's face against the class's own.
    private static void face() throws IOException {
        Set<String> wanted = new TreeSet<>();
        Matcher m = Pattern.compile("(?m)^    public (int|long|boolean) (\\w+)\\((.*)\\);$").matcher(Files.readString(DOCUMENT));
        while (m.find()) {
            List<String> types = new ArrayList<>();
            for (String each : m.group(3).split(", ")) if (!each.isEmpty()) types.add(each.split(" ")[0]);
            wanted.add(m.group(1) + " " + m.group(2) + types);
        }
        Set<String> there = new TreeSet<>();
        for (Method method : MagpieAccounts.class.getDeclaredMethods()) {
            if (!Modifier.isPublic(method.getModifiers())) continue;
            if (Modifier.isStatic(method.getModifiers())) fault("rule 1: static " + method);
            List<String> types = Arrays.stream(method.getParameterTypes()).map(Class::getSimpleName).toList();
            there.add(method.getReturnType().getSimpleName() + " " + method.getName() + types);
        }
        if (wanted.size() != 60) fault("the document's face has " + wanted.size() + " methods here");
        if (!wanted.equals(there)) fault("rule 1: the face is " + there);
        if (!Modifier.isFinal(MagpieAccounts.class.getModifiers())) fault("rule 1: not final");
        if (MagpieAccounts.NONE != -1) fault("NONE is " + MagpieAccounts.NONE);
    }

    private static boolean hidden(Member member) {
        return Modifier.isPrivate(member.getModifiers());
    }

    private static void members() {
        Set<String> open = new TreeSet<>();
        List<Class<?>> all = new ArrayList<>(List.of(MagpieAccounts.class.getDeclaredClasses()));
        for (Method method : MagpieAccounts.class.getDeclaredMethods()) {
            if (Modifier.isPublic(method.getModifiers())) open.add(method.getName());
            else if (!hidden(method)) fault("rule 1: " + method);
        }
        for (Field field : MagpieAccounts.class.getDeclaredFields()) {
            if (!hidden(field) && !field.getName().equals("NONE")) fault("rule 1: " + field);
        }
        Constructor<?>[] made = MagpieAccounts.class.getDeclaredConstructors();
        if (made.length != 1 || made[0].getParameterCount() != 0) fault("rule 1: constructors");
        for (Class<?> each : all) {
            if (!Modifier.isStatic(each.getModifiers()) || Modifier.isPublic(each.getModifiers())) fault("rule 1: " + each);
        }
        all.add(MagpieAccounts.class);
        if (all.size() > 12) fault("rule 11: " + all.size() + " classes");
        for (Class<?> each : all) {
            long fields = Arrays.stream(each.getDeclaredFields()).filter(f -> !Modifier.isStatic(f.getModifiers())).count();
            if (fields > 20) fault("rule 11: " + fields + " fields of " + each);
            for (Field field : each.getDeclaredFields()) {
                if (Modifier.isStatic(field.getModifiers()) && !Modifier.isFinal(field.getModifiers())) fault("rule 5: " + field);
            }
            for (Method method : each.getDeclaredMethods()) {
                if (method.getParameterCount() > 7) fault("rule 11: " + method);
                if (open.contains(method.getName()) && !Modifier.isPublic(method.getModifiers())) fault("rule 1: " + method);
            }
        }
    }

    // Rule 11: which method calls which, as the compiled classes say. Methods that call one another in a ring count once.
    private static void depths() {
        Map<String, Set<String>> calls = calls();
        if (calls.size() < 100) fault("the calls of " + calls.size() + " methods were found");
        Map<String, Set<String>> reached = new TreeMap<>();
        for (String each : calls.keySet()) reached.put(each, reachedFrom(each, calls));
        for (String each : calls.keySet()) {
            int deep = depth(each, calls, reached, Set.of());
            if (deep > 8) fault("rule 11: " + each + " goes " + deep + " deep");
        }
    }

    private static Map<String, Set<String>> calls() {
        Map<String, Set<String>> calls = new TreeMap<>();
        List<Class<?>> all = new ArrayList<>(List.of(MagpieAccounts.class.getDeclaredClasses()));
        all.add(MagpieAccounts.class);
        String at = MagpieAccounts.class.getProtectionDomain().getCodeSource().getLocation().getPath();
        for (Class<?> each : all) {
            StringWriter out = new StringWriter();
            ToolProvider.findFirst("javap").orElseThrow().run(new PrintWriter(out), new PrintWriter(System.err), "-p", "-c", "-cp", at, each.getName());
            String from = "";
            for (String line : out.toString().split("\n")) {
                Matcher head = Pattern.compile("^  (?! )[^(]*?([\\w$]+)\\(.*\\);$").matcher(line);
                Matcher call = Pattern.compile("// Method (?:(MagpieAccounts[\\w$]*)\\.)?\"?([\\w<>]+)\"?:").matcher(line);
                if (head.find()) {
                    from = each.getName() + "." + (head.group(1).equals(each.getName()) ? "<init>" : head.group(1));
                    calls.putIfAbsent(from, new TreeSet<>());
                } else if (call.find()) {
                    calls.get(from).add((call.group(1) == null ? each.getName() : call.group(1)) + "." + call.group(2));
                }
            }
        }
        return calls;
    }

    private static Set<String> reachedFrom(String from, Map<String, Set<String>> calls) {
        Set<String> seen = new TreeSet<>();
        List<String> open = new ArrayList<>(calls.get(from));
        while (!open.isEmpty()) {
            String next = open.remove(open.size() - 1);
            if (calls.containsKey(next) && seen.add(next)) open.addAll(calls.get(next));
        }
        return seen;
    }

    private static int depth(String method, Map<String, Set<String>> calls, Map<String, Set<String>> reached, Set<String> around) {
        Set<String> ring = new TreeSet<>(around);
        ring.add(method);
        int deepest = 0;
        for (String next : calls.get(method)) {
            if (!calls.containsKey(next) || ring.contains(next)) continue;
            boolean same = reached.get(next).contains(method);
            int deep = depth(next, calls, reached, same ? ring : Set.of());
            deepest = Math.max(deepest, same ? deep - 1 : deep);
        }
        return deepest + 1;
    }
}
