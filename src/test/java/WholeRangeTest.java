/**
 * The calls whose answer hangs on little beside their arguments, over all of these and beyond both ends, against Model;
 * what is told ahead of some of them (VOTES, RANKS, WHAT FOLLOWS, MORNINGS) in many ways.
 * An object is promised for 512 calls, so it is made anew well before.
 */
public final class WholeRangeTest {
    private static final int CALLS = 400;
    private static MagpieAccounts real = new MagpieAccounts();
    private static final Model model = new Model();
    private static int calls = 0;
    private static int wrong = 0;

    // The object for the next call; it has nothing told, and neither has the model.
    private static MagpieAccounts fresh() {
        calls++;
        if (calls > CALLS) {
            real = new MagpieAccounts();
            calls = 1;
        }
        return real;
    }

    private static void same(String call, long want, long got, int... args) {
        if (want != got) {
            wrong++;
            if (wrong <= 10) {
                System.out.println(call + java.util.Arrays.toString(args) + " answered " + got + ", due is " + want);
            }
        }
    }

    public static void main(String[] args) {
        tests();
        numbers();
        depths();
        games();
        parishes();
        causes();
        rings();
        habits();
        System.out.println(wrong == 0 ? "all answers over the whole ranges are the model's" : wrong + " answers differ from the model");
        if (wrong != 0) System.exit(1);
    }

    private static void tests() {
        for (int n = -1; n <= 13; n++) {
            for (int odds = -1; odds <= 11; odds++) {
                for (int k = -1; k <= n + 1; k++) {
                    same("test upper", model.test(n, k, odds, false), fresh().test(n, k, odds, false), n, k, odds);
                    same("test lower", model.test(n, k, odds, true), fresh().test(n, k, odds, true), n, k, odds);
                }
                same("bound", model.bound(n, odds), fresh().bound(n, odds), n, odds);
                for (int truly = -1; truly <= 11; truly++) {
                    same("sure upper", model.sure(n, odds, truly, false), fresh().sure(n, odds, truly, false), n, odds, truly);
                    same("sure lower", model.sure(n, odds, truly, true), fresh().sure(n, odds, truly, true), n, odds, truly);
                }
            }
        }
    }

    private static void numbers() {
        for (int a = -1; a <= 100; a++) {
            for (int n = -1; n <= 51; n++) {
                int length = model.digits(a, n);
                same("digits", length, fresh().digits(a, n), a, n);
                for (int i = -1; i <= Math.max(0, length); i++) {
                    same("digit", model.digit(a, n, i), fresh().digit(a, n, i), a, n, i);
                }
            }
        }
    }

    private static void depths() {
        for (int guess = -1; guess <= 1000; guess++) {
            same("rests", model.rests(guess), fresh().rests(guess), guess);
            for (int deep = -1; deep <= 100; deep++) {
                same("depth", model.depth(guess, deep), fresh().depth(guess, deep), guess, deep);
            }
        }
    }

    private static void games() {
        for (int n = -1; n <= 41; n++) {
            same("game", model.game(n), fresh().game(n), n);
            for (int most = -1; most <= 41; most++) {
                same("take", model.take(n, most), fresh().take(n, most), n, most);
            }
        }
    }

    // Few VOTES, so that fractions and rests are often like one another, and the most that can be.
    private static void parishes() {
        int[] each = {0, 1, 2, 3, 999};
        for (int told = 0; told < 5 * 5 * 5 * 5 * 5; told++) {
            MagpieAccounts x = new MagpieAccounts();
            Model m = new Model();
            for (int parish = 0, rest = told; parish < 5; parish++, rest /= 5) {
                x.votes(parish, each[rest % 5]);
                m.votes(parish, each[rest % 5]);
            }
            for (int seats = told % 6 - 1; seats <= 31; seats += 4) {
                same("unlike", m.unlike(seats), x.unlike(seats), told, seats);
                for (int parish = 0; parish < 5; parish++) {
                    same("seats", m.seats(parish, seats, false), x.seats(parish, seats, false), told, parish, seats);
                    same("seats by rests", m.seats(parish, seats, true), x.seats(parish, seats, true), told, parish, seats);
                }
            }
        }
    }

    // Every seventh of all rows of three PARISHES, with VOTES by which two are as many as the third, and fewer.
    private static void causes() {
        int[][] votes = {{1, 1, 1}, {2, 1, 1}, {3, 2, 4}};
        for (int told = 0; told < 24 * 24 * 24; told += 7) {
            MagpieAccounts x = new MagpieAccounts();
            Model m = new Model();
            int[] each = votes[told % 3];
            for (int parish = 0, rest = told; parish < 3; parish++, rest /= 24) {
                x.votes(parish, each[parish]);
                m.votes(parish, each[parish]);
                x.ranks(parish, rest % 24);
                m.ranks(parish, rest % 24);
            }
            same("winner", m.winner(), x.winner(), told);
            same("runoff", m.runoff(), x.runoff(), told);
            for (int a = 0; a < 4; a++) {
                same("points", m.points(a), x.points(a), told, a);
                for (int b = 0; b < 4; b++) same("beats", m.beats(a, b) ? 1 : 0, x.beats(a, b) ? 1 : 0, told, a, b);
            }
        }
    }

    // All ways in which five COUNTS follow one another, the four others coming to them at last.
    private static void rings() {
        for (int told = 0; told < 5 * 5 * 5 * 5 * 5; told++) {
            MagpieAccounts x = new MagpieAccounts();
            Model m = new Model();
            for (int count = 0, rest = told; count < 9; count++, rest /= 5) {
                // From the highest COUNT on, so that the lowest is not always in a ring.
                int next = count < 5 ? 8 - rest % 5 : 8 - (count - 5 + told % 2);
                x.follows(8 - count, next);
                m.follows(8 - count, next);
            }
            same("agree", m.agree(), x.agree(), told);
            same("ring size", m.ring(true), x.ring(true), told);
            same("ring", m.ring(false), x.ring(false), told);
            for (int count = -1; count <= 9; count++) {
                same("till", m.till(count), x.till(count), told, count);
                for (int n = -1; n < 12; n++) same("after", m.after(count, n), x.after(count, n), told, count, n);
            }
        }
    }

    // Each two DAYS of the first weeks, each having come or not.
    private static void habits() {
        for (int told = 0; told < 27 * 27 * 4; told++) {
            MagpieAccounts x = new MagpieAccounts();
            Model m = new Model();
            int first = told / 4 % 27;
            int second = told / 4 / 27;
            x.morning(first, told % 2 == 0);
            m.morning(first, told % 2 == 0);
            x.morning(second, told % 4 < 2);
            m.morning(second, told % 4 < 2);
            same("habits", m.habits(), x.habits(), told);
            for (int what = -1; what <= 3; what++) same("habit", m.habit(what), x.habit(what), told, what);
        }
    }
}
