import java.lang.reflect.InvocationTargetException;
import java.lang.reflect.Method;
import java.util.ArrayList;
import java.util.Arrays;
import java.util.Comparator;
import java.util.List;
import java.util.Random;

/** Long runs of drawn calls (from a fixed seed) on the class and on Model: every answer must be the same. */
public final class FuzzTest {
    private static final int RUNS = 400;
    private static final int CALLS = 400;
    private static final String[] PIECES = {
        "chance", "brings", "bird", "rhyme", "thin", "call", "grant", "day", "odds", "by", "fund", "last", "gone", "number",
        "period", "count", "thing", "came", "if", "then", "else", "end", "or", "and", "not", "<=", ">=", "<", ">", "=", "#",
        "+", "-", "*", "/", "(", ")", ";", "0", "1", "7", "9", "12", "60", "999", "9999", "10000", "00012", "!", "Day", "\t", "<>", "=="
    };

    private final Random random;
    private final MagpieAccounts real = new MagpieAccounts();
    private final Model model = new Model();
    private final List<String> log = new ArrayList<>();
    private boolean same = true;

    private FuzzTest(long seed) {
        random = new Random(seed);
    }

    public static void main(String[] args) throws ReflectiveOperationException {
        Method[] face = face();
        int wrong = 0;
        for (int run = 0; run < RUNS && wrong < 5; run++) {
            FuzzTest test = new FuzzTest(run);
            boolean same = run % 5 == 4 ? test.runTexts() : test.run(face, run % 5);
            if (!same) {
                wrong++;
            }
        }
        System.out.println(wrong == 0 ? "all answers are the model's" : wrong + " runs differ from the model");
        if (wrong != 0) System.exit(1);
    }

    private static Method[] face() {
        Method[] all = Arrays.stream(MagpieAccounts.class.getDeclaredMethods())
            .filter(m -> (m.getModifiers() & java.lang.reflect.Modifier.PUBLIC) != 0).toArray(Method[]::new);
        Arrays.sort(all, Comparator.comparing(Method::getName));
        return all;
    }

    private boolean run(Method[] face, int manner) throws ReflectiveOperationException {
        if (manner > 0) {
            prepare(manner);
        }
        for (int i = log.size(); i < CALLS && same; i++) {
            int kind = random.nextInt(12);
            if (kind == 0) {
                feedText(drawText(random.nextInt(4)));
            } else if (kind == 1) {
                passOn();
            } else {
                Method m = face[random.nextInt(face.length)];
                boolean rare = m.getName().equals("back") || m.getName().equals("feed");
                if (!rare || random.nextInt(6) == 0) {
                    invoke(m.getName(), draw(m));
                }
            }
        }
        return same;
    }

    // An object takes just four TEXTS, so each is read, asked and then gone back from.
    private boolean runTexts() throws ReflectiveOperationException {
        prepare(3);
        invoke("years", random.nextInt(10000), 40);
        invoke("rhyme", random.nextInt(9), random.nextInt(10));
        invoke("end", 0);
        for (int i = 0; i < 40 && same; i++) {
            invoke("image");
            String text = random.nextInt(4) == 0 ? drawDeep() : drawText(random.nextInt(4));
            feedText(text);
            int read = model.about(1) - 1;
            invoke("by", read);
            for (int count = 0; count < 9; count++) invoke("brings", count);
            for (int bird = 0; bird < 8; bird++) invoke("of", bird, 5);
            invoke("foretold", 3, 0);
            invoke("best", random.nextInt(5), false);
            invoke("played", read);
            invoke("is", 2);
            if (random.nextInt(4) > 0) invoke("back");
        }
        return same;
    }

    private void prepare(int manner) throws ReflectiveOperationException {
        int birds = random.nextInt(9);
        for (int i = 0; i < birds; i++) {
            int period = manner == 3 ? 1 + random.nextInt(2) : 1 + random.nextInt(12);
            invoke("bird", period, random.nextInt(period), random.nextInt(11));
        }
        feedText(drawText(0));
        invoke("by", random.nextInt(2) - 1);
        if (manner == 2) {
            // Close to the last DAY, so that its edges are met.
            int spent = 9900 + random.nextInt(100);
            while (model.is(0) < spent && same) {
                invoke("day", Math.min(60, spent - model.is(0)));
            }
            if (random.nextInt(2) == 0) {
                invoke("image");
            }
        }
    }

    private void passOn() throws ReflectiveOperationException {
        switch (random.nextInt(5)) {
            case 0 -> invoke("years", random.nextInt(10000), 1 + random.nextInt(40));
            case 1 -> invoke("day", 1 + random.nextInt(60));
            case 2 -> invoke("day", 1 + random.nextInt(4));
            case 3 -> invoke("played", random.nextInt(4));
            default -> invoke("grant", random.nextInt(1999) - 999);
        }
    }

    private Object[] draw(Method m) {
        Class<?>[] types = m.getParameterTypes();
        Object[] out = new Object[types.length];
        for (int i = 0; i < types.length; i++) {
            out[i] = types[i] == boolean.class ? (Object) random.nextBoolean() : (Object) drawInt(m.getName(), i, out);
        }
        return out;
    }

    private int drawInt(String name, int i, Object[] before) {
        int kind = random.nextInt(30);
        if (kind == 0) return random.nextInt();
        if (kind == 1) return random.nextBoolean() ? Integer.MIN_VALUE : Integer.MAX_VALUE;
        if (kind == 2) return random.nextInt(64) - 2;
        return switch (name) {
            case "end" -> random.nextInt(310) - 2;
            case "grant" -> random.nextInt(2001) - 1000;
            case "votes" -> i == 0 ? random.nextInt(6) : random.nextInt(random.nextBoolean() ? 10 : 1001);
            case "seats", "unlike" -> name.equals("seats") && i == 0 ? random.nextInt(5) : random.nextInt(32);
            case "ranks" -> i == 0 ? random.nextInt(6) : random.nextInt(25);
            case "digits" -> i == 0 ? random.nextInt(101) : random.nextInt(52);
            case "digit" -> i == 0 ? random.nextInt(101) : i == 1 ? random.nextInt(52) : random.nextInt(102) - 1;
            case "depth" -> i == 0 ? random.nextInt(1001) : random.nextInt(random.nextBoolean() ? 6 : 101);
            case "rests" -> random.nextInt(1002) - 1;
            case "game", "take" -> random.nextInt(43) - 1;
            case "morning" -> random.nextInt(random.nextBoolean() ? 8 : 102) - 1;
            case "told" -> i == 0 ? random.nextInt(11) - 1 : random.nextBoolean() ? model.brings((int) before[0]) : random.nextInt(203) - 101;
            case "rota" -> random.nextInt(1002) - 1;
            case "after" -> i == 0 ? random.nextInt(10) : random.nextInt(random.nextInt(4) > 0 ? 20 : 1000002);
            case "years" -> i == 0 ? random.nextInt(10002) - 1 : random.nextInt(42);
            case "day", "foretold" -> name.equals("foretold") && i == 1 ? random.nextInt(3) : random.nextInt(62);
            case "test", "sure", "bound" -> random.nextInt(14) - 1;
            case "bird" -> random.nextInt(14) - 1;
            case "beats" -> random.nextInt(5) - random.nextInt(2);
            case "best", "comes", "likely" -> random.nextInt(random.nextBoolean() ? 4 : 10);
            case "book" -> i == 0 ? random.nextInt(27) - 1 : random.nextInt(5);
            default -> random.nextInt(12) - 2;
        };
    }

    private void invoke(String name, Object... args) throws ReflectiveOperationException {
        Class<?>[] types = new Class<?>[args.length];
        for (int i = 0; i < args.length; i++) types[i] = args[i] instanceof Boolean ? boolean.class : int.class;
        String call = name + Arrays.toString(args);
        log.add(call);
        Object want = Model.class.getDeclaredMethod(name, types).invoke(model, args);
        Object got;
        try {
            got = MagpieAccounts.class.getDeclaredMethod(name, types).invoke(real, args);
        } catch (InvocationTargetException e) {
            got = e.getCause();
        }
        if (!want.equals(got)) {
            same = false;
            System.out.println("call " + log.size() + " " + call + " answered " + got + ", due is " + want);
            System.out.println("  the run: " + log);
        }
    }

    // ---- texts

    private void feedText(String text) throws ReflectiveOperationException {
        invoke("end", 0);
        String cut = text.length() > 300 ? text.substring(0, 300) : text;
        for (int at = 0; at < cut.length(); at += 20) {
            Object[] words = new Object[5];
            for (int w = 0; w < 5; w++) {
                int word = 0;
                for (int b = 0; b < 4; b++) {
                    int i = at + w * 4 + b;
                    word = word << 8 | (i < cut.length() ? cut.charAt(i) & 255 : 0);
                }
                words[w] = word;
            }
            invoke("feed", words);
        }
        invoke("end", cut.length());
        invoke("text");
        invoke("fault", 0);
        invoke("fault", 1);
    }

    // 0: in order; 1: with one piece changed; 2: pieces at random; 3: many clauses.
    private String drawText(int manner) {
        StringBuilder out = new StringBuilder();
        if (manner == 2) {
            out.append(random.nextBoolean() ? "chance " : "brings ");
            for (int i = random.nextInt(12); i >= 0; i--) out.append(piece()).append(' ');
            return out.toString();
        }
        int clauses = manner == 3 ? 20 + random.nextInt(8) : 1 + random.nextInt(6);
        boolean chance = false;
        boolean brings = false;
        for (int i = 0; i < clauses; i++) {
            int kind = random.nextInt(8);
            if (manner != 3 && kind == 0 && !chance) {
                chance = random.nextInt(12) > 0;
                out.append("chance ").append(sum(0, true));
            } else if (manner != 3 && kind == 1 && !brings) {
                brings = random.nextInt(12) > 0;
                out.append("brings ").append(sum(0, false));
            } else {
                out.append(row());
            }
            out.append(random.nextInt(60) == 0 ? "" : ";");
        }
        if (manner == 1) {
            int at = random.nextInt(out.length());
            if (random.nextBoolean()) out.setCharAt(at, (char) (random.nextBoolean() ? 32 + random.nextInt(96) : random.nextInt(256)));
            else out.insert(at, ' ' + piece() + ' ');
        }
        return out.toString();
    }

    // About as many open as can be.
    private String drawDeep() {
        StringBuilder out = new StringBuilder(random.nextBoolean() ? "chance " : "brings ");
        StringBuilder shut = new StringBuilder();
        for (int i = 6 + random.nextInt(4); i > 0; i--) {
            switch (random.nextInt(6)) {
                case 0 -> { out.append("("); shut.insert(0, ")"); }
                case 1 -> out.append("-");
                case 2 -> out.append("rhyme ");
                case 3 -> out.append("came ");
                case 4 -> { out.append("if not 1="); shut.insert(0, " then 2 else 3 end"); }
                default -> { out.append("if "); shut.insert(0, ">gone and not day#2 then last else 7 end"); }
            }
        }
        return out.append(number(8)).append(shut).append(";").toString();
    }

    private String piece() {
        return PIECES[random.nextInt(PIECES.length)];
    }

    private int number(int most) {
        return random.nextInt(40) == 0 ? random.nextInt(20000) : random.nextInt(most + 1);
    }

    private String row() {
        return switch (random.nextInt(7)) {
            case 0 -> "bird " + (1 + number(11)) + " odds " + number(10);
            case 1 -> "rhyme " + number(8) + " by " + number(9);
            case 2 -> "thin " + number(7);
            case 3 -> "call " + number(7);
            case 4 -> "grant " + (1 + number(998));
            default -> "day " + (1 + number(random.nextBoolean() ? 3 : 59));
        };
    }

    private String sum(int deep, boolean chance) {
        StringBuilder out = new StringBuilder(product(deep, chance));
        while (random.nextInt(3) == 0) out.append(random.nextBoolean() ? "+" : "-").append(product(deep, chance));
        return out.toString();
    }

    private String product(int deep, boolean chance) {
        StringBuilder out = new StringBuilder(one(deep, chance));
        while (random.nextInt(4) == 0) out.append(random.nextBoolean() ? "*" : "/").append(one(deep, chance));
        return out.toString();
    }

    private String one(int deep, boolean chance) {
        int kind = random.nextInt(deep > 6 ? 5 : 10);
        return switch (kind) {
            case 0, 1 -> String.valueOf(number(random.nextInt(3) == 0 ? 9999 : 12));
            case 2, 3, 4 -> name(chance);
            case 5 -> "(" + sum(deep + 1, chance) + ")";
            case 6 -> "-" + one(deep + 1, chance);
            case 7 -> "rhyme " + one(deep + 1, chance);
            case 8 -> "came " + one(deep + 1, chance);
            default -> "if " + either(deep + 1, chance) + " then " + sum(deep + 1, chance) + " else " + sum(deep + 1, chance) + " end";
        };
    }

    private String name(boolean chance) {
        String[] names = {"day", "fund", "last", "gone", "number", "odds", "period", "count", "thing"};
        if (random.nextInt(60) == 0) return names[random.nextInt(9)];
        int i = random.nextInt(chance ? 7 : 6);
        return names[!chance && i > 3 ? i + 3 : i];
    }

    private String either(int deep, boolean chance) {
        StringBuilder out = new StringBuilder(ask(deep, chance));
        while (random.nextInt(3) == 0) out.append(random.nextBoolean() ? " or " : " and ").append(ask(deep, chance));
        return out.toString();
    }

    private String ask(int deep, boolean chance) {
        if (deep < 8 && random.nextInt(4) == 0) return "not " + ask(deep + 1, chance);
        String[] signs = {"<", "<=", ">", ">=", "=", "#"};
        return sum(deep, chance) + signs[random.nextInt(6)] + sum(deep, chance);
    }
}
