import java.math.BigInteger;
import java.util.ArrayList;
import java.util.Arrays;
import java.util.HashMap;
import java.util.List;
import java.util.Map;
import java.util.regex.Matcher;
import java.util.regex.Pattern;

/**
 * The document once more, written the slow and plain way with the Java library, so that FuzzTest has
 * something to hold the class against. It shares no code with the class.
 */
final class Model {
    // ---- state

    static final class Magpie {
        int period, phase, odds, came;
        boolean gone;

        Magpie twin() {
            Magpie m = new Magpie();
            m.period = period;
            m.phase = phase;
            m.odds = odds;
            m.came = came;
            m.gone = gone;
            return m;
        }
    }

    record Page(int day, int count, int thing, int brought) { }

    record Seen(int day, boolean came) { }

    record Claim(int count, int brings) { }

    record Clause(String verb, int a, int b) { }

    static final class Script {
        Node chance, brings;
        List<Clause> clauses = new ArrayList<>();
    }

    record Snapshot(List<Integer> came, List<Boolean> gone, int fund, int count, int thing, int day, int x, List<Page> book) { }

    static final class All {
        List<Magpie> birds = new ArrayList<>();
        int[] rhyme = {0, 1, 2, 3, 4, 5, 6, 7, 8};
        int[] next = {0, 1, 2, 3, 4, 5, 6, 7, 8};
        int fund, count, thing, day, x = 419;
        List<Page> book = new ArrayList<>();
        List<Snapshot> steps = new ArrayList<>();
        List<Script> texts = new ArrayList<>();
        int ruling = -1;
        List<Seen> mornings = new ArrayList<>();
        List<Claim> claims = new ArrayList<>();
        int[] votes = new int[5];
        int[] orders = new int[5];

        All twin() {
            All a = new All();
            for (Magpie m : birds) a.birds.add(m.twin());
            a.rhyme = rhyme.clone();
            a.next = next.clone();
            a.fund = fund;
            a.count = count;
            a.thing = thing;
            a.day = day;
            a.x = x;
            a.book = new ArrayList<>(book);
            a.steps = new ArrayList<>(steps);
            a.texts = new ArrayList<>(texts);
            a.ruling = ruling;
            a.mornings = new ArrayList<>(mornings);
            a.claims = new ArrayList<>(claims);
            a.votes = votes.clone();
            a.orders = orders.clone();
            return a;
        }
    }

    private All s = new All();
    private All image = new All();
    private List<Integer> tape = new ArrayList<>();
    private Integer fault = null;
    private int place = -1;

    // ---- language

    interface Node {
        int value(Model m, Magpie bird, int number, int count);
    }

    static final class Fault extends RuntimeException {
        private static final long serialVersionUID = 1L;
        final int kind, place;

        Fault(int kind, int place) {
            this.kind = kind;
            this.place = place;
        }
    }

    record Token(String text, int place) { }

    private static int held(long v) {
        return (int) Math.max(-1000000, Math.min(1000000, v));
    }

    static final class Parser {
        private static final Pattern TOKEN = Pattern.compile("[a-zA-Z]+|[0-9]+|<=|>=|[^ \\n]", Pattern.DOTALL);
        private static final List<String> NAMES = List.of("day", "fund", "last", "gone", "number", "odds", "period", "count", "thing");
        private final List<Token> tokens = new ArrayList<>();
        private int i = 0;
        private String law = "";

        Parser(String source) {
            Matcher m = TOKEN.matcher(source);
            while (m.find()) tokens.add(new Token(m.group(), m.start()));
            tokens.add(new Token("", source.length()));
        }

        String peek() {
            return tokens.get(i).text;
        }

        Fault bad(int kind) {
            return new Fault(kind, tokens.get(i).place);
        }

        void want(String t) {
            if (!peek().equals(t)) throw bad(1);
            i++;
        }

        boolean got(String t) {
            if (!peek().equals(t)) return false;
            i++;
            return true;
        }

        int number(int low, int high) {
            if (!peek().matches("[0-9]+")) throw bad(1);
            BigInteger v = new BigInteger(peek());
            if (v.compareTo(BigInteger.valueOf(low)) < 0 || v.compareTo(BigInteger.valueOf(high)) > 0) throw bad(2);
            i++;
            return v.intValue();
        }

        Script script() {
            Script out = new Script();
            while (!peek().isEmpty()) {
                String verb = peek();
                if (!List.of("chance", "brings", "bird", "rhyme", "thin", "call", "grant", "day").contains(verb)) throw bad(1);
                if (verb.equals("chance") && out.chance != null) throw bad(4);
                if (verb.equals("brings") && out.brings != null) throw bad(4);
                if (out.clauses.size() == 24) throw bad(6);
                i++;
                int a = 0, b = 0;
                switch (verb) {
                    case "chance" -> { law = verb; out.chance = sum(0); }
                    case "brings" -> { law = verb; out.brings = sum(0); }
                    case "bird" -> { a = number(1, 12); want("odds"); b = number(0, 10); }
                    case "rhyme" -> { a = number(0, 8); want("by"); b = number(0, 9); }
                    case "thin", "call" -> a = number(0, 7);
                    case "grant" -> a = number(1, 999);
                    default -> a = number(1, 60);
                }
                want(";");
                out.clauses.add(new Clause(verb, a, b));
            }
            return out;
        }

        Node sum(int open) {
            Node left = product(open);
            while (true) {
                Node l = left;
                if (got("+")) {
                    Node r = product(open);
                    left = (m, b, n, c) -> held((long) l.value(m, b, n, c) + r.value(m, b, n, c));
                } else if (got("-")) {
                    Node r = product(open);
                    left = (m, b, n, c) -> held((long) l.value(m, b, n, c) - r.value(m, b, n, c));
                } else {
                    return left;
                }
            }
        }

        Node product(int open) {
            Node left = one(open);
            while (true) {
                Node l = left;
                if (got("*")) {
                    Node r = one(open);
                    left = (m, b, n, c) -> held((long) l.value(m, b, n, c) * r.value(m, b, n, c));
                } else if (got("/")) {
                    Node r = one(open);
                    left = (m, b, n, c) -> r.value(m, b, n, c) == 0 ? 0 : l.value(m, b, n, c) / r.value(m, b, n, c);
                } else {
                    return left;
                }
            }
        }

        Node one(int open) {
            String t = peek();
            if (t.matches("[0-9]+")) {
                int v = number(0, 9999);
                return (m, b, n, c) -> v;
            }
            if (NAMES.contains(t)) {
                boolean common = NAMES.indexOf(t) < 4;
                boolean ofChance = List.of("number", "odds", "period").contains(t);
                if (!common && ofChance != law.equals("chance")) throw bad(5);
                i++;
                return name(t);
            }
            if (!List.of("(", "-", "rhyme", "came", "if").contains(t)) throw bad(1);
            if (open == 8) throw bad(3);
            i++;
            switch (t) {
                case "(": {
                    Node in = sum(open + 1);
                    want(")");
                    return in;
                }
                case "-": {
                    Node in = one(open + 1);
                    return (m, b, n, c) -> -in.value(m, b, n, c);
                }
                case "rhyme": {
                    Node in = one(open + 1);
                    return (m, b, n, c) -> {
                        int v = in.value(m, b, n, c);
                        return v >= 0 && v <= 8 ? m.s.rhyme[v] : 0;
                    };
                }
                case "came": {
                    Node in = one(open + 1);
                    return (m, b, n, c) -> {
                        int v = in.value(m, b, n, c);
                        return v >= 0 && v < m.s.birds.size() ? m.s.birds.get(v).came : 0;
                    };
                }
                default: {
                    Node ask = either(open + 1);
                    want("then");
                    Node yes = sum(open + 1);
                    want("else");
                    Node no = sum(open + 1);
                    want("end");
                    return (m, b, n, c) -> ask.value(m, b, n, c) != 0 ? yes.value(m, b, n, c) : no.value(m, b, n, c);
                }
            }
        }

        static Node name(String t) {
            return (m, b, n, c) -> switch (t) {
                case "day" -> m.s.day;
                case "fund" -> m.s.fund;
                case "last" -> m.s.count;
                case "gone" -> (int) m.s.birds.stream().filter(x -> x.gone).count();
                case "number" -> n;
                case "odds" -> b.odds;
                case "period" -> b.period;
                case "count" -> c;
                default -> m.s.rhyme[c];
            };
        }

        Node either(int open) {
            Node left = both(open);
            while (got("or")) {
                Node l = left;
                Node r = both(open);
                left = (m, b, n, c) -> l.value(m, b, n, c) != 0 || r.value(m, b, n, c) != 0 ? 1 : 0;
            }
            return left;
        }

        Node both(int open) {
            Node left = ask(open);
            while (got("and")) {
                Node l = left;
                Node r = ask(open);
                left = (m, b, n, c) -> l.value(m, b, n, c) != 0 && r.value(m, b, n, c) != 0 ? 1 : 0;
            }
            return left;
        }

        Node ask(int open) {
            if (peek().equals("not")) {
                if (open == 8) throw bad(3);
                i++;
                Node in = ask(open + 1);
                return (m, b, n, c) -> in.value(m, b, n, c) == 0 ? 1 : 0;
            }
            Node l = sum(open);
            String sign = peek();
            if (!List.of("<", "<=", ">", ">=", "=", "#").contains(sign)) throw bad(1);
            i++;
            Node r = sum(open);
            return (m, b, n, c) -> {
                int order = Integer.compare(l.value(m, b, n, c), r.value(m, b, n, c));
                boolean so = switch (sign) {
                    case "<" -> order < 0;
                    case "<=" -> order <= 0;
                    case ">" -> order > 0;
                    case ">=" -> order >= 0;
                    case "=" -> order == 0;
                    default -> order != 0;
                };
                return so ? 1 : 0;
            };
        }
    }

    // ---- helpers

    private static boolean in(int v, int low, int high) {
        return low <= v && v <= high;
    }

    private int chance(int bird) {
        Magpie m = s.birds.get(bird);
        if (s.ruling < 0 || s.texts.get(s.ruling).chance == null) return m.odds;
        return Math.max(0, Math.min(10, s.texts.get(s.ruling).chance.value(this, m, bird, 0)));
    }

    private int brought(Script text, int count) {
        if (text == null || text.brings == null) return s.rhyme[count] - 2;
        return Math.max(-99, Math.min(99, text.brings.value(this, null, 0, count)));
    }

    private Script law() {
        return s.ruling < 0 ? null : s.texts.get(s.ruling);
    }

    private List<Integer> dueOn(int day) {
        List<Integer> out = new ArrayList<>();
        for (int i = 0; i < s.birds.size(); i++) {
            Magpie m = s.birds.get(i);
            if (!m.gone && day % m.period == m.phase) out.add(i);
        }
        return out;
    }

    private static int bits(List<Integer> set) {
        return set.stream().mapToInt(i -> 1 << i).sum();
    }

    private void step() {
        s.steps.add(new Snapshot(s.birds.stream().map(m -> m.came).toList(), s.birds.stream().map(m -> m.gone).toList(),
            s.fund, s.count, s.thing, s.day, s.x, List.copyOf(s.book)));
        if (s.steps.size() > 30) s.steps.remove(0);
    }

    private int drawn() {
        int x = s.x;
        s.x = (x * 661 + 541) % 30949;
        return x;
    }

    private int pass() {
        int came = 0;
        for (int i : dueOn(s.day)) {
            int draw = drawn() % 10;
            if (draw < chance(i)) {
                came++;
                s.birds.get(i).came = Math.min(9999, s.birds.get(i).came + 1);
            }
        }
        int brought = brought(law(), came);
        s.book.add(new Page(s.day, came, s.rhyme[came], brought));
        if (s.book.size() > 25) s.book.remove(0);
        s.fund = Math.max(-9999, Math.min(9999, s.fund + brought));
        s.count = came;
        s.thing = s.rhyme[came];
        s.day++;
        return came;
    }

    record Ratio(BigInteger up, BigInteger low) {
        static Ratio of(long up, long low) {
            return new Ratio(BigInteger.valueOf(up), BigInteger.valueOf(low)).cut();
        }

        Ratio cut() {
            BigInteger g = up.gcd(low);
            return new Ratio(up.divide(g), low.divide(g));
        }

        Ratio plus(Ratio o) {
            return new Ratio(up.multiply(o.low).add(o.up.multiply(low)), low.multiply(o.low)).cut();
        }

        Ratio times(Ratio o) {
            return new Ratio(up.multiply(o.up), low.multiply(o.low)).cut();
        }

        int compare(Ratio o) {
            return up.multiply(o.low).compareTo(o.up.multiply(low));
        }

        long part(boolean lower) {
            return (lower ? low : up).longValueExact();
        }
    }

    private static Ratio probability(List<Integer> chances, int from, int wanted) {
        if (from == chances.size()) return Ratio.of(wanted == 0 ? 1 : 0, 1);
        if (wanted < 0) return Ratio.of(0, 1);
        int p = chances.get(from);
        return Ratio.of(p, 10).times(probability(chances, from + 1, wanted - 1))
            .plus(Ratio.of(10 - p, 10).times(probability(chances, from + 1, wanted)));
    }

    private static BigInteger choose(int n, int k) {
        BigInteger out = BigInteger.ONE;
        for (int i = 0; i < k; i++) out = out.multiply(BigInteger.valueOf(n - i)).divide(BigInteger.valueOf(i + 1));
        return out;
    }

    private static Ratio tail(int n, int k, int odds) {
        BigInteger up = BigInteger.ZERO;
        for (int i = k; i <= n; i++) {
            up = up.add(choose(n, i).multiply(BigInteger.valueOf(odds).pow(i)).multiply(BigInteger.valueOf(10 - odds).pow(n - i)));
        }
        return new Ratio(up, BigInteger.TEN.pow(n)).cut();
    }

    private static List<List<Integer>> rows() {
        List<List<Integer>> out = new ArrayList<>();
        for (int code = 0; code < 256; code++) {
            List<Integer> row = List.of(code >> 6, code >> 4 & 3, code >> 2 & 3, code & 3);
            if (row.stream().distinct().count() == 4) out.add(row);
        }
        return out;
    }

    private List<Integer> row(int parish) {
        return rows().get(s.orders[parish]);
    }

    private boolean anyVotes() {
        return Arrays.stream(s.votes).sum() > 0;
    }

    private int[] share(int seats, boolean rests) {
        int[] out = new int[5];
        if (!rests) {
            for (int i = 0; i < seats; i++) {
                int best = 0;
                for (int p = 0; p < 5; p++) {
                    if (Ratio.of(s.votes[p], out[p] + 1).compare(Ratio.of(s.votes[best], out[best] + 1)) > 0) best = p;
                }
                out[best]++;
            }
            return out;
        }
        int all = Arrays.stream(s.votes).sum();
        List<Integer> order = new ArrayList<>(List.of(0, 1, 2, 3, 4));
        order.sort((a, b) -> Integer.compare(s.votes[b] * seats % all, s.votes[a] * seats % all));
        for (int p = 0; p < 5; p++) out[p] = s.votes[p] * seats / all;
        int left = seats - Arrays.stream(out).sum();
        for (int i = 0; i < left; i++) out[order.get(i)]++;
        return out;
    }

    private static final Map<Integer, Boolean> WINS = new HashMap<>();

    // Whether the one to move wins, n being left, of which most may be taken.
    private static boolean wins(int n, int most) {
        if (n == 0) return false;
        int key = n * 1000 + Math.min(n, most);
        Boolean known = WINS.get(key);
        if (known != null) return known;
        boolean out = false;
        for (int t = 1; t <= Math.min(n, most); t++) out |= !wins(n - t, 2 * t);
        WINS.put(key, out);
        return out;
    }

    private boolean fits(int period, int phase) {
        return s.mornings.stream().allMatch(m -> (m.day % period == phase) == m.came);
    }

    private boolean inRing(int count) {
        int c = s.next[count];
        for (int i = 0; i < 20 && c != count; i++) c = s.next[c];
        return c == count;
    }

    private int ringSize(int count) {
        int size = 1;
        for (int c = s.next[count]; c != count; c = s.next[c]) size++;
        return size;
    }

    // ---- the face

    int bird(int period, int phase, int odds) {
        if (!in(period, 1, 12) || phase < 0 || phase >= period || !in(odds, 0, 10) || s.birds.size() == 8) return -1;
        Magpie m = new Magpie();
        m.period = period;
        m.phase = phase;
        m.odds = odds;
        s.birds.add(m);
        return s.birds.size() - 1;
    }

    boolean rhyme(int count, int thing) {
        if (!in(count, 0, 8) || !in(thing, 0, 9)) return false;
        s.rhyme[count] = thing;
        return true;
    }

    int feed(int a, int b, int c, int d, int e) {
        if (tape.size() > 280) return -1;
        for (int w : new int[] {a, b, c, d, e}) {
            tape.add(w >>> 24);
            tape.add(w >>> 16 & 255);
            tape.add(w >>> 8 & 255);
            tape.add(w & 255);
        }
        return tape.size();
    }

    int end(int n) {
        if (n < 0 || n > tape.size()) return -1;
        tape = new ArrayList<>(tape.subList(0, n));
        return n;
    }

    int text() {
        if (s.texts.size() == 4) return -1;
        StringBuilder source = new StringBuilder();
        for (int b : tape) source.append((char) b);
        tape.clear();
        try {
            s.texts.add(new Parser(source.toString()).script());
            fault = 0;
            place = -1;
            return s.texts.size() - 1;
        } catch (Fault f) {
            fault = f.kind;
            place = f.place;
            return -1;
        }
    }

    int fault(int what) {
        if (fault == null) return -1;
        return what == 0 ? fault : what == 1 ? place : -1;
    }

    boolean by(int text) {
        if (!in(text, -1, s.texts.size() - 1)) return false;
        s.ruling = text;
        return true;
    }

    boolean thin(int bird) {
        if (!in(bird, 0, s.birds.size() - 1) || s.birds.get(bird).gone) return false;
        step();
        s.birds.get(bird).gone = true;
        return true;
    }

    boolean call(int bird) {
        if (!in(bird, 0, s.birds.size() - 1) || !s.birds.get(bird).gone) return false;
        step();
        s.birds.get(bird).gone = false;
        return true;
    }

    boolean grant(int pounds) {
        if (!in(pounds, -999, 999) || pounds == 0 || !in(s.fund + pounds, -9999, 9999)) return false;
        step();
        s.fund += pounds;
        return true;
    }

    int day(int n) {
        if (!in(n, 1, 60) || s.day + n > 9999) return -1;
        int all = 0;
        for (int i = 0; i < n; i++) {
            step();
            all += pass();
        }
        return all;
    }

    int played(int text) {
        if (!in(text, 0, s.texts.size() - 1)) return -2;
        List<Clause> clauses = s.texts.get(text).clauses;
        for (int i = 0; i < clauses.size(); i++) {
            Clause c = clauses.get(i);
            boolean done = true;
            switch (c.verb) {
                case "bird" -> done = bird(c.a, 0, c.b) >= 0;
                case "rhyme" -> done = rhyme(c.a, c.b);
                case "thin" -> done = thin(c.a);
                case "call" -> done = call(c.a);
                case "grant" -> done = grant(c.a);
                case "day" -> {
                    for (int d = 0; d < c.a && done; d++) done = day(1) >= 0;
                }
                default -> { }
            }
            if (!done) return i;
        }
        return -1;
    }

    int years(int seed, int n) {
        if (!in(seed, 0, 9999) || !in(n, 1, 40)) return -1;
        step();
        List<Snapshot> steps = new ArrayList<>(s.steps);
        s.x = seed * 2 + 419;
        for (int i = 0; i < n; i++) {
            int x = drawn();
            if (x % 6 == 0 && x % 4 == 2) thin(x / 6 % 8);
            if (x % 6 == 1) call(x / 6 % 8);
            if (x % 6 == 2 && x % 4 == 0) grant(1 + x / 6 % 50);
            if (x % 6 >= 3 && s.day < 9999) pass();
        }
        s.steps = steps;
        return s.day;
    }

    int undo() {
        if (s.steps.isEmpty()) return -1;
        Snapshot p = s.steps.remove(s.steps.size() - 1);
        for (int i = 0; i < s.birds.size(); i++) {
            s.birds.get(i).came = i < p.came.size() ? p.came.get(i) : 0;
            s.birds.get(i).gone = i < p.gone.size() && p.gone.get(i);
        }
        s.fund = p.fund;
        s.count = p.count;
        s.thing = p.thing;
        s.day = p.day;
        s.x = p.x;
        s.book = new ArrayList<>(p.book);
        return s.steps.size();
    }

    int of(int bird, int what) {
        if (!in(bird, 0, s.birds.size() - 1)) return -1;
        Magpie m = s.birds.get(bird);
        return switch (what) {
            case 0 -> m.period;
            case 1 -> m.phase;
            case 2 -> m.odds;
            case 3 -> m.gone ? 1 : 0;
            case 4 -> m.came;
            case 5 -> chance(bird);
            default -> -1;
        };
    }

    int is(int what) {
        return switch (what) {
            case 0 -> s.day;
            case 1 -> s.x;
            case 2 -> s.fund;
            case 3 -> s.count;
            case 4 -> s.thing;
            default -> -100000;
        };
    }

    int things(int count) {
        return in(count, 0, 8) ? s.rhyme[count] : -1;
    }

    int brings(int count) {
        return in(count, 0, 8) ? brought(law(), count) : -1000;
    }

    int book(int i, int what) {
        if (i == -1) return s.book.size();
        if (!in(i, 0, s.book.size() - 1)) return -1000;
        Page p = s.book.get(i);
        return switch (what) {
            case 0 -> p.day;
            case 1 -> p.count;
            case 2 -> p.thing;
            case 3 -> p.brought;
            default -> -1000;
        };
    }

    int foretold(int n, int what) {
        if (!in(n, 1, 60) || !in(what, 0, 1)) return -100000;
        All keep = s;
        s = s.twin();
        for (int i = 0; i < n && s.day < 9999; i++) pass();
        int out = what == 0 ? s.fund : s.count;
        s = keep;
        return out;
    }

    long likely(int count, boolean low) {
        if (!in(count, 0, 8)) return -1;
        return probability(dueOn(s.day).stream().map(this::chance).toList(), 0, count).part(low);
    }

    long mean(boolean low) {
        Ratio sum = Ratio.of(0, 1);
        for (int i : dueOn(s.day)) sum = sum.plus(Ratio.of(chance(i), 10));
        return sum.part(low);
    }

    int best(int count, boolean many) {
        if (!in(count, 0, 8)) return -1;
        List<Integer> due = dueOn(s.day);
        Ratio most = null;
        int best = 0;
        for (int size = 0; size <= 8; size++) {
            for (int set = 0; set < 256; set++) {
                if (Integer.bitCount(set) != size || (set & bits(due)) != set) continue;
                int without = set;
                Ratio p = probability(due.stream().filter(i -> (without >> i & 1) == 0).map(this::chance).toList(), 0, count);
                if (most == null || p.compare(most) > 0) {
                    most = p;
                    best = set;
                }
            }
        }
        return many ? Integer.bitCount(best) : best;
    }

    int morning(int day, boolean came) {
        if (day == -1) {
            s.mornings.clear();
            return 0;
        }
        if (!in(day, 0, 99) || s.mornings.size() == 12) return -2;
        s.mornings.add(new Seen(day, came));
        return s.mornings.size();
    }

    int habits() {
        int out = 0;
        for (int p = 1; p <= 12; p++) for (int h = 0; h < p; h++) if (fits(p, h)) out++;
        return out;
    }

    int habit(int what) {
        for (int p = 1; p <= 12; p++) {
            for (int h = 0; h < p; h++) {
                if (!fits(p, h)) continue;
                int day = s.mornings.stream().mapToInt(m -> m.day + 1).max().orElse(0);
                while (day % p != h) day++;
                return what == 0 ? p : what == 1 ? h : what == 2 ? day : -1;
            }
        }
        return -1;
    }

    int whom() {
        int out = 0;
        for (int i = 0; i < s.birds.size(); i++) if (fits(s.birds.get(i).period, s.birds.get(i).phase)) out += 1 << i;
        return out;
    }

    int rota(int days) {
        return in(days, 0, 999) ? bits(dueOn(s.day + days)) : -1;
    }

    int gather() {
        long there = s.birds.stream().filter(m -> !m.gone).count();
        if (there == 0) return -1;
        for (int d = s.day; d < s.day + 27720; d++) if (dueOn(d).size() == there) return d;
        return -1;
    }

    int comes(int count) {
        if (!in(count, 0, 8)) return -1;
        for (int d = 0; d <= 60; d++) {
            List<Integer> due = dueOn(s.day + d);
            if (probability(due.stream().map(this::chance).toList(), 0, count).up.signum() > 0) return d;
        }
        return -1;
    }

    boolean follows(int count, int next) {
        if (!in(count, 0, 8) || !in(next, 0, 8)) return false;
        s.next[count] = next;
        return true;
    }

    int agree() {
        int out = 0;
        for (int c = 0; c < 9; c++) if (s.next[c] == c) out += 1 << c;
        return out;
    }

    int ring(boolean size) {
        int best = -1;
        for (int c = 0; c < 9; c++) if (inRing(c) && (best < 0 || ringSize(c) < ringSize(best))) best = c;
        return size ? ringSize(best) : best;
    }

    int till(int count) {
        if (!in(count, 0, 8)) return -1;
        int n = 0;
        for (int c = count; !inRing(c); c = s.next[c]) n++;
        return n;
    }

    int after(int count, int n) {
        if (!in(count, 0, 8) || !in(n, 0, 1000000)) return -1;
        int c = count;
        for (int i = 0; i < n; i++) c = s.next[c];
        return c;
    }

    long test(int n, int k, int odds, boolean low) {
        return in(n, 0, 12) && in(k, 0, n) && in(odds, 0, 10) ? tail(n, k, odds).part(low) : -1;
    }

    int bound(int n, int odds) {
        if (!in(n, 1, 12) || !in(odds, 0, 10)) return -1;
        for (int k = 0; k <= n; k++) if (tail(n, k, odds).compare(Ratio.of(1, 20)) <= 0) return k;
        return -1;
    }

    long sure(int n, int odds, int real, boolean low) {
        int k = bound(n, odds);
        return k < 0 || !in(real, 0, 10) ? -1 : tail(n, k, real).part(low);
    }

    boolean votes(int parish, int votes) {
        if (!in(parish, 0, 4) || !in(votes, 0, 999)) return false;
        s.votes[parish] = votes;
        return true;
    }

    int seats(int parish, int seats, boolean rests) {
        return in(parish, 0, 4) && in(seats, 0, 30) && anyVotes() ? share(seats, rests)[parish] : -1;
    }

    int unlike(int seats) {
        if (!in(seats, 0, 30) || !anyVotes()) return -1;
        int out = 0;
        for (int p = 0; p < 5; p++) if (share(seats, true)[p] != share(seats, false)[p]) out += 1 << p;
        return out;
    }

    boolean ranks(int parish, int order) {
        if (!in(parish, 0, 4) || !in(order, 0, 23)) return false;
        s.orders[parish] = order;
        return true;
    }

    boolean beats(int a, int b) {
        if (!in(a, 0, 3) || !in(b, 0, 3) || a == b) return false;
        int pro = 0, con = 0;
        for (int p = 0; p < 5; p++) {
            if (row(p).indexOf(a) < row(p).indexOf(b)) pro += s.votes[p];
            else con += s.votes[p];
        }
        return pro > con;
    }

    int winner() {
        for (int a = 0; a < 4; a++) {
            boolean all = true;
            for (int b = 0; b < 4; b++) all &= a == b || beats(a, b);
            if (all) return a;
        }
        return -1;
    }

    int points(int cause) {
        if (!in(cause, 0, 3)) return -1;
        int out = 0;
        for (int p = 0; p < 5; p++) out += s.votes[p] * (3 - row(p).indexOf(cause));
        return out;
    }

    int runoff() {
        List<Integer> left = new ArrayList<>(List.of(0, 1, 2, 3));
        while (left.size() > 1) {
            int[] first = new int[4];
            for (int p = 0; p < 5; p++) first[row(p).stream().filter(left::contains).findFirst().orElseThrow()] += s.votes[p];
            int worst = left.get(0);
            for (int c : left) if (first[c] <= first[worst]) worst = c;
            left.remove((Integer) worst);
        }
        return left.get(0);
    }

    int digits(int a, int n) {
        return in(a, 0, 99) && in(n, 0, 50) ? BigInteger.valueOf(a).pow(n).toString().length() : -1;
    }

    int digit(int a, int n, int i) {
        if (i < 0 || i >= digits(a, n)) return -1;
        return BigInteger.valueOf(a).pow(n).toString().charAt(i) - '0';
    }

    int depth(int guess, int deep) {
        if (!in(guess, 0, 999) || !in(deep, 0, 99)) return -1;
        return deep == 0 ? guess : depth(guess, deep - 1) * 2 / 3;
    }

    int rests(int guess) {
        if (!in(guess, 0, 999)) return -1;
        int deep = 0;
        while (depth(guess, deep) != depth(guess, deep + 1)) deep++;
        return deep;
    }

    int game(int n) {
        if (!in(n, 0, 40)) return -1;
        return n == 1 || wins(n, n - 1) ? 1 : 0;
    }

    int take(int n, int most) {
        if (!in(n, 0, 40) || !in(most, 1, 40)) return -1;
        for (int t = 1; t <= Math.min(n, most); t++) if (!wins(n - t, 2 * t)) return t;
        return -1;
    }

    int told(int count, int brings) {
        if (count == -1) {
            s.claims.clear();
            return 0;
        }
        if (!in(count, 0, 8) || !in(brings, -99, 99) || s.claims.size() == 8) return -2;
        s.claims.add(new Claim(count, brings));
        return s.claims.size();
    }

    int whose() {
        int out = 0;
        for (int t = 0; t < s.texts.size(); t++) {
            Script text = s.texts.get(t);
            if (s.claims.stream().allMatch(c -> brought(text, c.count) == c.brings)) out += 1 << t;
        }
        return out;
    }

    int eldest() {
        int most = s.birds.stream().mapToInt(m -> m.came).max().orElse(0);
        if (most == 0) return -1;
        for (int i = 0; ; i++) if (s.birds.get(i).came == most) return i;
    }

    int due() {
        return bits(dueOn(s.day));
    }

    int ledger(int thing) {
        return in(thing, 0, 9) ? (int) s.book.stream().filter(p -> p.thing == thing).count() : -2;
    }

    int image() {
        image = s.twin();
        return s.day;
    }

    int back() {
        s = image.twin();
        return s.day;
    }

    int about(int what) {
        return switch (what) {
            case 0 -> s.birds.size();
            case 1 -> s.texts.size();
            case 2 -> s.ruling;
            case 3 -> s.steps.size();
            case 4 -> s.mornings.size();
            case 5 -> s.claims.size();
            case 6 -> tape.size();
            default -> -2;
        };
    }
}
