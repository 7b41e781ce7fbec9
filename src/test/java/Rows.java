import java.util.StringJoiner;

/** What the tests by hand share: rows of answers that are due, and ways to bring an object to where it is asked. */
class Rows {
    static final int NONE = MagpieAccounts.NONE;
    static final int LEAST = Integer.MIN_VALUE;
    static final int MOST = Integer.MAX_VALUE;
    private static String title = "";
    private static int row = 0;
    private static int wrong = 0;

    static MagpieAccounts begin(String name) {
        title = name;
        row = 0;
        return new MagpieAccounts();
    }

    static void wrong(String what) {
        wrong++;
        System.out.println(what);
    }

    static void due(long want, long got) {
        row++;
        if (want != got) {
            wrong(title + ", row " + row + ": answered " + got + ", due is " + want);
        }
    }

    static void due(boolean want, boolean got) {
        due(want ? 1 : 0, got ? 1 : 0);
    }

    static void same(String want, String got) {
        row++;
        if (!want.equals(got)) {
            wrong(title + ", row " + row + ": it is\n  " + got + ", due is\n  " + want);
        }
    }

    static void finish(String holds) {
        System.out.println(wrong == 0 ? holds : wrong + " answers are not as due");
        if (wrong != 0) System.exit(1);
    }

    // ---- the tape and TEXTS

    static void feedAll(MagpieAccounts x, String text) {
        x.end(0);
        for (int at = 0; at < text.length(); at += 20) {
            int[] w = new int[5];
            for (int i = 0; i < 20; i++) {
                int sign = at + i < text.length() ? text.charAt(at + i) & 255 : 0;
                w[i / 4] = w[i / 4] << 8 | sign;
            }
            x.feed(w[0], w[1], w[2], w[3], w[4]);
        }
        x.end(text.length());
    }

    static int tell(MagpieAccounts x, String text) {
        feedAll(x, text);
        return x.text();
    }

    static MagpieAccounts ruled(String text) {
        MagpieAccounts x = new MagpieAccounts();
        x.by(tell(x, text));
        return x;
    }

    // brings of COUNT 3 by this SUM.
    static void brings(int want, String sum) {
        due(want, ruled("brings " + sum + ";").brings(3));
    }

    static void faulty(int fault, int place, String text) {
        MagpieAccounts x = new MagpieAccounts();
        due(fault == 0 ? 0 : NONE, tell(x, text));
        due(fault, x.fault(0));
        due(place, x.fault(1));
    }

    static void right(String text) {
        faulty(0, NONE, text);
    }

    static String times(int n, String text) {
        return text.repeat(n);
    }

    // ---- states

    // So many DAYS, by as few calls as can be: an object is promised for 512 of them.
    static void passDays(MagpieAccounts x, int n) {
        for (int left = n; left > 0; left -= 60) x.day(Math.min(60, left));
    }

    static void birds(MagpieAccounts x, int many, int odds) {
        for (int i = 0; i < many; i++) x.bird(1, 0, odds);
    }

    // Each kind of what can be told and done, once at least.
    static void stir(MagpieAccounts x) {
        x.bird(1, 0, 10);
        x.bird(2, 1, 7);
        x.rhyme(1, 9);
        x.by(tell(x, "chance 9;brings count*3-last;bird 3 odds 4;rhyme 0 by 4;day 2;"));
        x.played(x.about(2));
        x.thin(1);
        x.thin(0);
        x.call(0);
        x.grant(77);
        x.day(2);
        x.years(26, 9);
        x.morning(3, true);
        x.morning(5, false);
        x.follows(2, 3);
        x.votes(1, 30);
        x.votes(3, 40);
        x.ranks(3, 17);
        x.told(1, 2);
    }

    // All that an image holds, as far as some eighty calls can ask it.
    static String state(MagpieAccounts x) {
        StringJoiner out = new StringJoiner(" ");
        for (int what = 0; what < 5; what++) out.add("is" + what + "=" + x.is(what));
        for (int what = 0; what < 6; what++) out.add("about" + what + "=" + x.about(what));
        for (int count = 0; count < 9; count++) out.add("thing" + count + "=" + x.things(count));
        for (int bird = 0; bird < 4; bird++) {
            for (int what = 0; what < 6; what++) out.add("of" + bird + what + "=" + x.of(bird, what));
        }
        int pages = x.book(NONE, 0);
        out.add("pages=" + pages);
        for (int what = 0; what < 4; what++) out.add("page=" + x.book(pages - 1, what));
        out.add("ledger=" + x.ledger(0)).add("fits=" + x.habits()).add("next=" + x.habit(2)).add("whose=" + x.whose());
        out.add("agree=" + x.agree()).add("after=" + x.after(2, 1)).add("due=" + x.due()).add("brings=" + x.brings(1));
        for (int cause = 0; cause < 4; cause++) out.add("points" + cause + "=" + x.points(cause));
        for (int parish = 0; parish < 5; parish++) out.add("seats" + parish + "=" + x.seats(parish, 30, true));
        return out.toString();
    }

    static String stateAndTape(MagpieAccounts x) {
        return state(x) + " tape=" + x.about(6) + " fault=" + x.fault(0) + " place=" + x.fault(1);
    }
}
