import java.io.IOException;
import java.nio.file.Files;
import java.nio.file.Path;
import java.util.Map;
import java.util.Set;
import java.util.TreeMap;
import java.util.TreeSet;
import java.util.regex.Matcher;
import java.util.regex.Pattern;

/** README.md: its examples answer what it says, and its tables have every call of the face, with its refusal. */
public final class ReadmeTest extends Rows {
    private static String page;

    // A line of an example, as it stands there, and what it answers.
    private static void line(String code, long want, long got) {
        if (!page.contains("\n" + code)) wrong("README.md has no line \"" + code + "\"");
        due(want, got);
    }

    public static void main(String[] args) throws IOException {
        page = Files.readString(Path.of("README.md"));
        examples();
        calls();
        refusals();
        tests();
        finish("the README says what is so");
    }

    private static void examples() {
        MagpieAccounts accounts = begin("the README's examples");
        int bird = accounts.bird(2, 1, 10);
        line("int bird = accounts.bird(2, 1, 10); ", 0, bird);
        line("accounts.rhyme(1, 9); ", 1, accounts.rhyme(1, 9) ? 1 : 0);
        line("accounts.day(2); ", 1, accounts.day(2));
        line("accounts.is(2); ", 5, accounts.is(2));
        due(-2, accounts.book(0, 3));
        due(7, accounts.book(1, 3));
        line("accounts.undo(); ", 1, accounts.undo());
        line("accounts.feed(0x6272696e, 0x67732063, 0x6f756e74, 0x2a323b00, 0); ", 20,
            accounts.feed(0x6272696e, 0x67732063, 0x6f756e74, 0x2a323b00, 0));
        line("accounts.end(15);", 15, accounts.end(15));
        int text = accounts.text();
        line("int text = accounts.text(); ", 0, text);
        line("accounts.by(text); ", 1, accounts.by(text) ? 1 : 0);
        line("accounts.brings(3); ", 6, accounts.brings(3));
        line("accounts.likely(1, false); ", 1, accounts.likely(1, false));
        line("accounts.likely(1, true); ", 1, accounts.likely(1, true));
        line("accounts.image(); ", 1, accounts.image());
        line("accounts.thin(bird); ", 1, accounts.thin(bird) ? 1 : 0);
        line("accounts.back(); ", 1, accounts.back());
        due(0, accounts.of(bird, 3));
    }

    private static Set<String> named(String part) {
        Set<String> names = new TreeSet<>();
        Matcher m = Pattern.compile("`(\\w+)`").matcher(part);
        while (m.find()) names.add(m.group(1));
        return names;
    }

    // The rows of a table, by what stands in their first column.
    private static Map<String, String> table(String head) {
        Map<String, String> rows = new TreeMap<>();
        int from = page.indexOf("\n| " + head + " |\n");
        if (from < 0) wrong("README.md has no table \"" + head + "\"");
        for (String each : page.substring(from + 1).split("\n")) {
            if (!each.startsWith("|")) break;
            String[] columns = each.split("\\|");
            rows.put(columns[1].trim(), columns[2].trim());
        }
        return rows;
    }

    private static void calls() {
        Set<String> wanted = new TreeSet<>();
        for (var each : MagpieAccounts.class.getDeclaredMethods()) {
            if (java.lang.reflect.Modifier.isPublic(each.getModifiers())) wanted.add(each.getName());
        }
        Set<String> there = new TreeSet<>();
        for (var row : table("what | calls").entrySet()) {
            for (String name : named(row.getValue())) {
                boolean undone = name.equals("undo") || there.add(name);
                if (!undone) wrong("README.md has " + name + " twice");
            }
            there.addAll(named(row.getKey()));
        }
        if (!wanted.equals(there)) wrong("README.md has the calls " + there + ", the face has " + wanted);
    }

    private static void refusals() {
        Map<String, String> rows = table("answer | of");
        if (!named(rows.get("-2")).equals(Set.of("played", "morning", "told", "ledger", "about"))) wrong("README.md: -2");
        if (!named(rows.get("-1000")).equals(Set.of("brings", "book"))) wrong("README.md: -1000");
        if (!named(rows.get("-100000")).equals(Set.of("is", "foretold"))) wrong("README.md: -100000");
        MagpieAccounts x = begin("the README's refusals");
        due(-2, x.played(9));
        due(-2, x.morning(LEAST, true));
        due(-2, x.told(LEAST, 0));
        due(-2, x.ledger(LEAST));
        due(-2, x.about(LEAST));
        due(-1000, x.brings(LEAST));
        due(-1000, x.book(LEAST, 0));
        due(-100000, x.is(LEAST));
        due(-100000, x.foretold(LEAST, 0));
        due(NONE, x.bird(LEAST, 0, 0) + x.end(LEAST) - x.day(LEAST));
        due(false, x.by(LEAST) || x.thin(LEAST) || x.call(LEAST) || x.grant(LEAST) || x.rhyme(LEAST, 0));
    }

    private static void tests() throws IOException {
        try (var files = Files.list(Path.of("src/test/java"))) {
            for (Path each : files.toList()) {
                String name = each.getFileName().toString().replace(".java", "");
                if (name.endsWith("Test") && !page.contains("`" + name + "`")) wrong("README.md does not name " + name);
            }
        }
    }
}
