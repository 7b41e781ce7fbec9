import java.io.IOException;

/** A test for each sentence of the 61 promises that names a boundary, with that sentence as its name. */
public final class EdgesOfPromisesTest extends Edges {
    // Numbers that no call takes anywhere.
    private static final int[] FAR = {LEAST, -10000, 1000001, MOST};

    public static void main(String[] args) throws IOException {
        newObject();
        bird();
        rhyme();
        feed();
        end();
        text();
        fault();
        by();
        thin();
        call();
        grant();
        day();
        played();
        years();
        undo();
        of();
        is();
        thingsAndBrings();
        book();
        foretold();
        likelyAndMean();
        best();
        morning();
        habits();
        rotaAndGather();
        comes();
        follows();
        rings();
        test();
        boundAndSure();
        votes();
        seats();
        ranks();
        winners();
        digits();
        depths();
        games();
        told();
        eldestAndDue();
        ledger();
        image();
        about();
        checkQuotes(1, 61);
        finish("the edges of the promises hold");
    }

    private static void newObject() {
        MagpieAccounts x = edge(1, "No bird");
        due(0, x.about(0));
        due(NONE, x.of(0, 0));
        due(0, x.due());
        due(0, x.day(1));

        x = edge(1, "THE IMAGE is this");
        String first = state(x);
        stir(x);
        due(0, x.back());
        same(first, state(x));
        due(NONE, x.undo());
        due(NONE, x.eldest());
    }

    private static void bird() {
        MagpieAccounts x = edge(2, "NONE for others (1 .. 12; below it; 0 .. 10)");
        due(0, x.bird(1, 0, 0));
        due(1, x.bird(12, 11, 10));
        String ahead = stateAndTape(x);
        due(NONE, x.bird(0, 0, 5));
        due(NONE, x.bird(13, 0, 5));
        due(NONE, x.bird(-1, -2, 5));
        due(NONE, x.bird(0, -1, 5));
        due(NONE, x.bird(1, 1, 5));
        due(NONE, x.bird(12, 12, 5));
        due(NONE, x.bird(12, -1, 5));
        due(NONE, x.bird(1, 0, -1));
        due(NONE, x.bird(1, 0, 11));
        for (int far : FAR) {
            due(NONE, x.bird(far, 0, 5));
            due(NONE, x.bird(1, far, 5));
            due(NONE, x.bird(1, 0, far));
        }
        same(ahead, stateAndTape(x));
        due(2, x.bird(2, 1, 5));

        x = edge(2, "or if there are 8");
        for (int i = 0; i < 8; i++) due(i, x.bird(12, i, 10 - i));
        due(NONE, x.bird(1, 0, 0));
        due(8, x.about(0));
        due(12, x.of(7, 0));
        due(7, x.of(7, 1));
        due(3, x.of(7, 2));
        due(NONE, x.of(8, 0));
        // A BIRD that is gone is one of the 8.
        x.thin(7);
        due(NONE, x.bird(1, 0, 0));
        x.back();
        due(0, x.bird(1, 0, 0));
    }

    private static void rhyme() {
        MagpieAccounts x = edge(3, "False for others (0 .. 8; 0 .. 9)");
        due(true, x.rhyme(0, 0));
        due(true, x.rhyme(0, 9));
        due(true, x.rhyme(8, 0));
        due(true, x.rhyme(8, 9));
        String ahead = stateAndTape(x);
        due(false, x.rhyme(-1, 5));
        due(false, x.rhyme(9, 5));
        due(false, x.rhyme(4, -1));
        due(false, x.rhyme(4, 10));
        for (int far : FAR) {
            due(false, x.rhyme(far, 5));
            due(false, x.rhyme(5, far));
        }
        same(ahead, stateAndTape(x));
    }

    private static void feed() {
        // "day 1;day 2;grant 3;"
        MagpieAccounts x = edge(4, "Twenty bytes come behind the tape, the highest of a first: how many it has");
        due(20, x.feed(0x64617920, 0x313b6461, 0x7920323b, 0x6772616e, 0x7420333b));
        due(40, x.feed(0x64617920, 0x313b6461, 0x7920323b, 0x6772616e, 0x7420333b));
        due(0, x.text());
        due(NONE, x.played(0));
        due(6, x.is(0));
        due(-12 + 6, x.is(2));
        // Each byte as one of 0 .. 255, in its own place.
        for (int at = 0; at < 20; at++) {
            x = begin("byte " + at + " of what is fed");
            int[] w = {0x20202020, 0x20202020, 0x20202020, 0x20202020, 0x20202020};
            w[at / 4] ^= 0xdf << 24 - at % 4 * 8;
            x.feed(w[0], w[1], w[2], w[3], w[4]);
            due(NONE, x.text());
            due(1, x.fault(0));
            due(at, x.fault(1));
        }

        x = edge(4, "NONE, and none come, if there would be more than 300");
        for (int i = 1; i <= 15; i++) due(20 * i, x.feed(0x20202020, 0x20202020, 0x20202020, 0x20202020, 0x20202020));
        for (int has = 300; has > 280; has--) {
            due(has, x.end(has));
            due(NONE, x.feed(LEAST, MOST, -1, 0, 1));
            due(has, x.about(6));
        }
        due(280, x.end(280));
        due(300, x.feed(0x20202020, 0x20202020, 0x20202020, 0x20202020, 0x20202020));
        due(0, x.text());
    }

    private static void end() {
        MagpieAccounts x = edge(5, "The tape has its first n bytes alone: n");
        feedAll(x, "grant 5;grant 7;grant 9;");
        due(24, x.end(24));
        due(16, x.end(16));
        due(16, x.about(6));
        due(0, x.text());
        x.played(0);
        due(12, x.is(2));
        feedAll(x, "day 1;");
        due(0, x.end(0));
        due(0, x.about(6));
        due(20, x.feed(0, 0, 0, 0, 0));
        due(3, x.end(3));
        due(23, x.feed(0, 0, 0, 0, 0));

        x = edge(5, "NONE, and nothing is done, if it has not so many, or n is below 0");
        due(0, x.end(0));
        due(NONE, x.end(1));
        due(NONE, x.end(-1));
        feedAll(x, "grant 5;");
        due(NONE, x.end(9));
        due(NONE, x.end(20));
        due(NONE, x.end(-1));
        for (int far : FAR) due(NONE, x.end(far));
        due(8, x.about(6));
        due(0, x.text());
        due(NONE, x.end(8));
    }

    private static void text() {
        MagpieAccounts x = edge(6, "The tape (empty then) is a TEXT: its number");
        due(0, x.text());
        for (int text = 1; text < 4; text++) {
            feedAll(x, "day " + text + ";");
            due(text, x.text());
            due(0, x.about(6));
        }
        due(NONE, x.end(1));

        x = edge(6, "NONE: it has a FAULT");
        String ahead = state(x);
        due(NONE, tell(x, "day"));
        due(0, x.about(6));
        same(ahead, state(x));
        due(0, tell(x, "day 1;"));

        x = edge(6, "or (the tape stays) there are 4");
        for (int text = 0; text < 4; text++) tell(x, "day " + (text + 1) + ";");
        feedAll(x, "day 9;");
        ahead = stateAndTape(x);
        due(NONE, x.text());
        same(ahead, stateAndTape(x));
        due(6, x.about(6));
        x.back();
        due(0, x.text());
        x.played(0);
        due(9, x.is(0));
    }

    private static void fault() {
        MagpieAccounts x = edge(7, "Of the latest text that was read: 0 its FAULT (0 without), 1 its place (NONE without)");
        tell(x, "day 99;");
        due(2, x.fault(0));
        due(4, x.fault(1));
        tell(x, ";");
        due(1, x.fault(0));
        due(0, x.fault(1));
        tell(x, "day 9;");
        due(0, x.fault(0));
        due(NONE, x.fault(1));
        // Nothing else changes it.
        tell(x, "day 99;");
        feedAll(x, "day 9;");
        stir(x);
        tell(x, "day 99;");
        x.undo();
        x.image();
        x.back();
        x.end(0);
        due(2, x.fault(0));
        due(4, x.fault(1));

        x = edge(7, "NONE for others, and ahead of any");
        due(NONE, x.fault(0));
        due(NONE, x.fault(1));
        feedAll(x, "?");
        due(NONE, x.fault(0));
        x.text();
        due(1, x.fault(0));
        due(NONE, x.fault(-1));
        due(NONE, x.fault(2));
        for (int far : FAR) due(NONE, x.fault(far));
    }

    private static void by() {
        MagpieAccounts x = edge(8, "THE TEXT (NONE: none): true");
        due(true, x.by(NONE));
        for (int text = 0; text < 4; text++) {
            tell(x, "brings " + text + "0;");
            due(true, x.by(text));
            due(text, x.about(2));
            due(text * 10, x.brings(5));
        }
        due(true, x.by(NONE));
        due(NONE, x.about(2));
        due(3, x.brings(5));

        x = edge(8, "False for others");
        due(false, x.by(0));
        tell(x, "brings 10;");
        x.by(0);
        due(false, x.by(1));
        due(false, x.by(-2));
        due(false, x.by(4));
        for (int far : FAR) due(false, x.by(far));
        due(0, x.about(2));
        due(10, x.brings(5));
    }

    private static void thin() {
        MagpieAccounts x = edge(9, "False, if it is gone, and for others");
        due(false, x.thin(0));
        birds(x, 8, 10);
        due(true, x.thin(0));
        due(true, x.thin(7));
        String ahead = stateAndTape(x);
        due(false, x.thin(0));
        due(false, x.thin(7));
        due(false, x.thin(8));
        due(false, x.thin(-1));
        due(false, x.thin(32));
        for (int far : FAR) due(false, x.thin(far));
        same(ahead, stateAndTape(x));
        due(2, x.about(3));
        due(126, x.due());
    }

    private static void call() {
        MagpieAccounts x = edge(10, "False, if it isn't gone, and for others");
        due(false, x.call(0));
        birds(x, 8, 10);
        x.thin(0);
        x.thin(7);
        String ahead = stateAndTape(x);
        for (int bird = 1; bird < 7; bird++) due(false, x.call(bird));
        due(false, x.call(8));
        due(false, x.call(-1));
        due(false, x.call(39));
        for (int far : FAR) due(false, x.call(far));
        same(ahead, stateAndTape(x));
        due(true, x.call(0));
        due(true, x.call(7));
        due(false, x.call(7));
        due(255, x.due());
        due(4, x.about(3));
    }

    private static void grant() {
        MagpieAccounts x = edge(11, "False for others (-999 .. 999, not 0)");
        due(true, x.grant(999));
        due(true, x.grant(-999));
        due(true, x.grant(1));
        due(true, x.grant(-1));
        String ahead = stateAndTape(x);
        due(false, x.grant(0));
        due(false, x.grant(1000));
        due(false, x.grant(-1000));
        for (int far : FAR) due(false, x.grant(far));
        same(ahead, stateAndTape(x));

        x = edge(11, "and beyond 9999, -9999");
        for (int i = 0; i < 10; i++) x.grant(999);
        due(false, x.grant(10));
        due(true, x.grant(9));
        due(9999, x.is(2));
        due(11, x.about(3));
        due(false, x.grant(1));
        due(false, x.grant(999));
        due(11, x.about(3));
        for (int i = 0; i < 20; i++) x.grant(-999);
        due(9999 - 19980, x.is(2));
        due(false, x.grant(-19));
        due(true, x.grant(-18));
        due(-9999, x.is(2));
        due(false, x.grant(-1));
        due(false, x.grant(-999));
        due(true, x.grant(1));
    }

    private static void day() {
        MagpieAccounts x = edge(12, "DAYS pass (1 .. 60): how many BIRDS come in them");
        due(0, x.day(1));
        due(1, x.is(0));
        birds(x, 8, 10);
        due(8, x.day(1));
        due(480, x.day(60));
        due(62, x.is(0));
        x.undo();
        due(61, x.is(0));

        x = edge(12, "NONE for others");
        birds(x, 1, 10);
        x.day(2);
        String ahead = stateAndTape(x);
        due(NONE, x.day(0));
        due(NONE, x.day(61));
        due(NONE, x.day(-1));
        for (int far : FAR) due(NONE, x.day(far));
        same(ahead, stateAndTape(x));

        x = edge(12, "or beyond 9999 (nothing is done then)");
        birds(x, 1, 5);
        passDays(x, 9940);
        ahead = stateAndTape(x);
        due(NONE, x.day(60));
        same(ahead, stateAndTape(x));
        due(true, x.day(59) >= 0);
        due(9999, x.is(0));
        ahead = stateAndTape(x);
        due(NONE, x.day(1));
        due(NONE, x.day(60));
        same(ahead, stateAndTape(x));
    }

    private static void played() {
        MagpieAccounts x = edge(13, "NONE: all is done; else the number of the CLAUSE that can't be");
        tell(x, "");
        due(NONE, x.played(0));
        tell(x, "chance 1;brings 1;");
        due(NONE, x.played(1));
        due(0, x.about(3));
        tell(x, "thin 0;");
        due(0, x.played(2));
        tell(x, times(23, "grant 1;") + "thin 0;");
        due(23, x.played(3));
        due(23, x.is(2));

        x = edge(13, "-2 for others");
        due(-2, x.played(0));
        tell(x, "grant 1;");
        String ahead = stateAndTape(x);
        due(-2, x.played(1));
        due(-2, x.played(-1));
        due(-2, x.played(4));
        for (int far : FAR) due(-2, x.played(far));
        same(ahead, stateAndTape(x));
    }

    private static void years() {
        MagpieAccounts x = edge(14, "NONE for others");
        birds(x, 2, 5);
        String ahead = stateAndTape(x);
        due(NONE, x.years(-1, 5));
        due(NONE, x.years(10000, 5));
        due(NONE, x.years(5, 0));
        due(NONE, x.years(5, -1));
        due(NONE, x.years(5, 41));
        for (int far : FAR) {
            due(NONE, x.years(far, 5));
            due(NONE, x.years(5, far));
        }
        same(ahead, stateAndTape(x));
        due(1, x.years(0, 1));
        due(2, x.years(9999, 1));
        due(true, x.years(0, 40) > 2);
        due(true, x.years(9999, 40) > 2);
        due(4, x.about(3));
    }

    private static void undo() {
        MagpieAccounts x = edge(15, "The latest STEP is taken back: how many can be yet");
        x.grant(1);
        x.grant(2);
        due(1, x.undo());
        due(1, x.is(2));
        due(0, x.undo());
        due(0, x.is(2));

        x = edge(15, "NONE: there is none");
        due(NONE, x.undo());
        x.bird(1, 0, 5);
        due(false, x.grant(0));
        due(false, x.call(0));
        due(NONE, x.day(0));
        due(NONE, x.years(0, 0));
        due(NONE, x.undo());
        x.day(31);
        for (int i = 29; i >= 0; i--) due(i, x.undo());
        String ahead = stateAndTape(x);
        due(NONE, x.undo());
        same(ahead, stateAndTape(x));
        due(1, x.is(0));
    }

    private static void of() {
        MagpieAccounts x = edge(16, "NONE for others");
        for (int what = 0; what < 6; what++) due(NONE, x.of(0, what));
        for (int i = 0; i < 8; i++) x.bird(12, 11, 10);
        due(12, x.of(7, 0));
        due(11, x.of(7, 1));
        due(10, x.of(7, 2));
        due(0, x.of(7, 3));
        due(0, x.of(7, 4));
        due(10, x.of(7, 5));
        due(NONE, x.of(7, 6));
        due(NONE, x.of(7, -1));
        due(NONE, x.of(8, 0));
        due(NONE, x.of(-1, 0));
        for (int far : FAR) {
            due(NONE, x.of(far, 0));
            due(NONE, x.of(0, far));
        }
        x.back();
        x.bird(1, 0, 5);
        due(NONE, x.of(1, 3));

        x = edge(16, "3 whether it is gone (1, 0)");
        x.bird(1, 0, 5);
        due(0, x.of(0, 3));
        x.thin(0);
        due(1, x.of(0, 3));
        // One that is gone has a chance, too.
        due(5, x.of(0, 5));
    }

    private static void is() {
        MagpieAccounts x = edge(17, "3 the latest COUNT, 4 the latest THING");
        x.rhyme(0, 9);
        due(0, x.is(3));
        due(0, x.is(4));
        birds(x, 8, 10);
        x.day(1);
        due(8, x.is(3));
        due(8, x.is(4));
        x.undo();
        due(0, x.is(3));
        due(0, x.is(4));

        x = edge(17, "-100000 for others");
        due(0, x.is(0));
        due(0, x.is(4));
        due(-100000, x.is(5));
        due(-100000, x.is(-1));
        for (int far : FAR) due(-100000, x.is(far));
    }

    private static void thingsAndBrings() {
        MagpieAccounts x = edge(18, "NONE for others");
        due(0, x.things(0));
        due(8, x.things(8));
        due(NONE, x.things(9));
        due(NONE, x.things(-1));
        for (int far : FAR) due(NONE, x.things(far));

        x = edge(19, "-1000 for others");
        due(-2, x.brings(0));
        due(6, x.brings(8));
        due(-1000, x.brings(9));
        due(-1000, x.brings(-1));
        for (int far : FAR) due(-1000, x.brings(far));
        x.by(tell(x, "brings count;"));
        due(-1000, x.brings(9));
        due(-1000, x.brings(-1));
    }

    private static void book() {
        MagpieAccounts x = edge(20, "BOOK: how many (i NONE)");
        due(0, x.book(NONE, 0));
        x.day(1);
        due(1, x.book(NONE, 0));
        due(1, x.book(NONE, 3));
        x.day(24);
        due(25, x.book(NONE, 0));
        x.day(60);
        due(25, x.book(NONE, 0));

        x = edge(20, "the i-th, from the eldest on: 0 DAY, 1 COUNT, 2 THING, 3 what it brought");
        x.bird(2, 1, 10);
        x.rhyme(1, 9);
        x.day(26);
        due(1, x.book(0, 0));
        due(1, x.book(0, 1));
        due(9, x.book(0, 2));
        due(7, x.book(0, 3));
        due(25, x.book(24, 0));
        due(24, x.book(23, 0));
        due(0, x.book(23, 1));
        due(0, x.book(23, 2));
        due(-2, x.book(23, 3));

        x = edge(20, "-1000 if there is none such, and for others");
        due(-1000, x.book(0, 0));
        x.day(1);
        due(-1000, x.book(1, 0));
        due(-1000, x.book(-2, 0));
        due(-1000, x.book(0, 4));
        due(-1000, x.book(0, -1));
        for (int far : FAR) {
            due(-1000, x.book(far, 0));
            due(-1000, x.book(0, far));
        }
        x.day(40);
        due(-1000, x.book(25, 0));
        // What is taken back is there no more.
        x.back();
        due(-1000, x.book(0, 0));
        x.day(2);
        x.undo();
        due(-1000, x.book(1, 0));
    }

    private static void foretold() {
        // At the last DAY none passes: both are as they are.
        MagpieAccounts x = edge(21, "FORETOLD: 0 FUND, 1 the latest COUNT");
        due(0, x.foretold(1, 1));
        x.bird(2, 0, 10);
        x.grant(3);
        due(2, x.foretold(1, 0));
        due(1, x.foretold(1, 1));
        due(0, x.foretold(2, 0));
        due(0, x.foretold(2, 1));
        passDays(x, 9999);
        due(x.is(2), x.foretold(60, 0));
        due(1, x.foretold(60, 1));

        x = edge(21, "-100000 for others");
        birds(x, 1, 10);
        due(-1, x.foretold(1, 0));
        due(-60, x.foretold(60, 0));
        due(1, x.foretold(60, 1));
        due(-100000, x.foretold(0, 0));
        due(-100000, x.foretold(61, 0));
        due(-100000, x.foretold(-1, 1));
        due(-100000, x.foretold(1, 2));
        due(-100000, x.foretold(1, -1));
        for (int far : FAR) {
            due(-100000, x.foretold(far, 0));
            due(-100000, x.foretold(1, far));
        }
    }

    private static void likelyAndMean() {
        MagpieAccounts x = edge(22, "NONE for others (0 .. 8)");
        due(1, x.likely(0, true));
        due(1, x.likely(8, true));
        due(-1, x.likely(-1, false));
        due(-1, x.likely(-1, true));
        due(-1, x.likely(9, false));
        due(-1, x.likely(9, true));
        for (int far : FAR) due(-1, x.likely(far, far < 0));

        x = edge(23, "MEAN: the upper (low false), the lower one (low true)");
        due(0, x.mean(false));
        due(1, x.mean(true));
        birds(x, 8, 9);
        due(36, x.mean(false));
        due(5, x.mean(true));
    }

    private static void best() {
        MagpieAccounts x = edge(24, "NONE for others (0 .. 8)");
        birds(x, 1, 10);
        due(1, x.best(0, false));
        due(0, x.best(8, false));
        due(NONE, x.best(-1, false));
        due(NONE, x.best(-1, true));
        due(NONE, x.best(9, false));
        due(NONE, x.best(9, true));
        for (int far : FAR) due(NONE, x.best(far, far < 0));
    }

    private static void morning() {
        MagpieAccounts x = edge(25, "A MORNING: how many there are (day NONE: none any more)");
        due(0, x.morning(NONE, true));
        due(1, x.morning(0, true));
        due(2, x.morning(99, true));
        due(0, x.morning(NONE, false));
        due(0, x.about(4));
        due(78, x.habits());
        due(1, x.morning(5, true));

        x = edge(25, "-2 for others (0 .. 99), or if there are 12");
        due(-2, x.morning(-2, true));
        due(-2, x.morning(100, true));
        for (int far : FAR) due(-2, x.morning(far, false));
        due(0, x.about(4));
        for (int i = 1; i <= 12; i++) due(i, x.morning(7, true));
        due(-2, x.morning(8, true));
        due(-2, x.morning(100, true));
        due(12, x.about(4));
        due(12, x.habits());
        due(0, x.morning(NONE, true));
        due(1, x.morning(8, true));
    }

    private static void habits() {
        MagpieAccounts x = edge(26, "HABITS: how many fit");
        due(78, x.habits());
        x.morning(50, true);
        x.morning(51, true);
        due(1, x.habits());
        x.morning(52, false);
        due(0, x.habits());

        x = edge(27, "NONE: none, and for others");
        due(1, x.habit(0));
        due(NONE, x.habit(3));
        due(NONE, x.habit(-1));
        for (int far : FAR) due(NONE, x.habit(far));
        x.morning(1, true);
        x.morning(1, false);
        for (int what = -1; what <= 3; what++) due(NONE, x.habit(what));

        x = edge(28, "WHOM: BIRDS (bits)");
        due(0, x.whom());
        birds(x, 8, 5);
        due(255, x.whom());
        x.morning(3, false);
        due(0, x.whom());
    }

    private static void rotaAndGather() {
        MagpieAccounts x = edge(29, "NONE for others");
        birds(x, 8, 5);
        due(255, x.rota(0));
        due(255, x.rota(999));
        due(NONE, x.rota(1000));
        due(NONE, x.rota(-1));
        for (int far : FAR) due(NONE, x.rota(far));

        x = edge(30, "NONE: none");
        due(NONE, x.gather());
        x.bird(12, 11, 5);
        due(11, x.gather());
        x.bird(12, 10, 5);
        due(NONE, x.gather());
        x.thin(0);
        due(10, x.gather());
        x.thin(1);
        due(NONE, x.gather());
    }

    private static void comes() {
        MagpieAccounts x = edge(31, "NONE: none, and for others (0 .. 8)");
        birds(x, 8, 5);
        due(0, x.comes(0));
        due(0, x.comes(8));
        due(NONE, x.comes(-1));
        due(NONE, x.comes(9));
        for (int far : FAR) due(NONE, x.comes(far));
        x.thin(0);
        due(NONE, x.comes(8));
    }

    private static void follows() {
        MagpieAccounts x = edge(32, "False for others (0 .. 8 each)");
        due(true, x.follows(0, 8));
        due(true, x.follows(8, 0));
        String ahead = stateAndTape(x);
        due(false, x.follows(-1, 3));
        due(false, x.follows(9, 3));
        due(false, x.follows(3, -1));
        due(false, x.follows(3, 9));
        for (int far : FAR) {
            due(false, x.follows(far, 3));
            due(false, x.follows(3, far));
        }
        same(ahead, stateAndTape(x));
        due(3, x.after(3, 1));
        due(8, x.after(0, 1));
        due(0, x.after(8, 1));

        x = edge(33, "AGREEING: counts (bits)");
        due(511, x.agree());
        x.follows(8, 0);
        due(255, x.agree());
        for (int count = 0; count < 8; count++) x.follows(count, 8);
        due(0, x.agree());
    }

    private static void rings() {
        MagpieAccounts x = edge(34, "THE SMALLEST RING: its size (size true), its lowest count (size false)");
        due(1, x.ring(true));
        due(0, x.ring(false));
        for (int count = 0; count < 9; count++) x.follows(count, 8);
        due(1, x.ring(true));
        due(8, x.ring(false));
        x.follows(8, 7);
        due(2, x.ring(true));
        due(7, x.ring(false));

        x = edge(35, "NONE for others");
        for (int count = 0; count < 8; count++) x.follows(count, count + 1);
        due(8, x.till(0));
        due(0, x.till(8));
        due(NONE, x.till(9));
        due(NONE, x.till(-1));
        for (int far : FAR) due(NONE, x.till(far));

        x = edge(36, "NONE for others (n 0 .. 1000000)");
        for (int count = 0; count < 9; count++) x.follows(count, (count + 1) % 9);
        due(0, x.after(0, 0));
        due(8, x.after(8, 0));
        due(1, x.after(0, 1000000));
        due(NONE, x.after(0, 1000001));
        due(NONE, x.after(0, -1));
        due(NONE, x.after(-1, 0));
        due(NONE, x.after(9, 0));
        for (int far : FAR) {
            due(NONE, x.after(far, 1));
            due(NONE, x.after(1, far));
        }
    }

    private static void test() {
        MagpieAccounts x = edge(37, "NONE for others (n 0 .. 12; k 0 .. n; 0 .. 10)");
        due(1, x.test(0, 0, 0, false));
        due(1, x.test(12, 12, 10, false));
        due(-1, x.test(-1, 0, 5, false));
        due(-1, x.test(-1, -1, 5, false));
        due(-1, x.test(13, 0, 5, true));
        due(-1, x.test(13, 13, 5, true));
        due(-1, x.test(0, 1, 5, false));
        due(-1, x.test(12, 13, 5, false));
        due(-1, x.test(5, 6, 5, true));
        due(-1, x.test(5, -1, 5, true));
        due(-1, x.test(5, 5, -1, false));
        due(-1, x.test(5, 5, 11, true));
        for (int far : FAR) {
            due(-1, x.test(far, 0, 5, false));
            due(-1, x.test(5, far, 5, true));
            due(-1, x.test(5, 0, far, false));
        }
    }

    private static void boundAndSure() {
        MagpieAccounts x = edge(38, "NONE: none, and for others (n 1 .. 12; 0 .. 10)");
        due(1, x.bound(1, 0));
        due(1, x.bound(12, 0));
        due(NONE, x.bound(12, 10));
        due(NONE, x.bound(1, 1));
        due(NONE, x.bound(0, 0));
        due(NONE, x.bound(13, 0));
        due(NONE, x.bound(12, -1));
        due(NONE, x.bound(12, 11));
        for (int n = 1; n <= 12; n++) due(NONE, x.bound(n, n % 2 == 0 ? -1 : 11));
        for (int far : FAR) {
            due(NONE, x.bound(far, 0));
            due(NONE, x.bound(1, far));
        }

        x = edge(39, "NONE: there is no BOUND, and for others");
        due(1, x.sure(1, 0, 10, true));
        due(1, x.sure(12, 0, 10, false));
        due(-1, x.sure(12, 10, 10, false));
        due(-1, x.sure(1, 1, 0, true));
        due(-1, x.sure(0, 0, 5, false));
        due(-1, x.sure(13, 0, 5, false));
        due(-1, x.sure(5, -1, 5, true));
        due(-1, x.sure(5, 11, 5, true));
        for (int n = 1; n <= 12; n++) {
            due(-1, x.sure(n, -1, 5, false));
            due(-1, x.sure(n, 11, 5, false));
        }
        due(-1, x.sure(5, 5, -1, false));
        due(-1, x.sure(5, 5, 11, false));
        for (int far : FAR) {
            due(-1, x.sure(far, 0, 5, false));
            due(-1, x.sure(5, far, 5, true));
            due(-1, x.sure(5, 5, far, false));
        }
    }

    private static void votes() {
        MagpieAccounts x = edge(40, "False for others (0 .. 4; 0 .. 999)");
        due(true, x.votes(0, 999));
        due(true, x.votes(4, 999));
        due(true, x.votes(0, 0));
        String ahead = stateAndTape(x);
        due(false, x.votes(-1, 5));
        due(false, x.votes(5, 5));
        due(false, x.votes(4, -1));
        due(false, x.votes(4, 1000));
        for (int far : FAR) {
            due(false, x.votes(far, 5));
            due(false, x.votes(4, far));
        }
        same(ahead, stateAndTape(x));
        due(2997, x.points(0));
    }

    private static void seats() {
        MagpieAccounts x = edge(41, "NONE for others (0 .. 30), or without VOTES");
        for (int seats = 0; seats <= 30; seats += 15) {
            due(NONE, x.seats(0, seats, false));
            due(NONE, x.seats(4, seats, true));
        }
        x.votes(4, 999);
        due(0, x.seats(4, 0, false));
        due(0, x.seats(4, 0, true));
        due(30, x.seats(4, 30, false));
        due(30, x.seats(4, 30, true));
        due(0, x.seats(0, 30, true));
        due(NONE, x.seats(4, -1, false));
        due(NONE, x.seats(4, 31, true));
        due(NONE, x.seats(-1, 5, false));
        due(NONE, x.seats(5, 5, true));
        for (int far : FAR) {
            due(NONE, x.seats(far, 5, false));
            due(NONE, x.seats(4, far, true));
        }

        x = edge(42, "NONE for others (likewise)");
        due(NONE, x.unlike(0));
        due(NONE, x.unlike(30));
        x.votes(0, 1);
        due(0, x.unlike(0));
        due(0, x.unlike(30));
        due(NONE, x.unlike(-1));
        due(NONE, x.unlike(31));
        for (int far : FAR) due(NONE, x.unlike(far));
        x.votes(0, 0);
        due(NONE, x.unlike(5));
    }

    private static void ranks() {
        MagpieAccounts x = edge(43, "False for others");
        x.votes(0, 1);
        x.votes(4, 10);
        due(true, x.ranks(0, 23));
        due(true, x.ranks(4, 23));
        due(true, x.ranks(4, 0));
        String ahead = stateAndTape(x);
        due(false, x.ranks(-1, 5));
        due(false, x.ranks(5, 5));
        due(false, x.ranks(4, -1));
        due(false, x.ranks(4, 24));
        for (int far : FAR) {
            due(false, x.ranks(far, 5));
            due(false, x.ranks(4, far));
        }
        same(ahead, stateAndTape(x));
        due(30, x.points(0));
        due(3, x.points(3));

        x = edge(44, "False for others (unlike ones of 0 .. 3)");
        x.votes(0, 999);
        due(true, x.beats(0, 3));
        for (int cause = 0; cause < 4; cause++) due(false, x.beats(cause, cause));
        due(false, x.beats(-1, 3));
        due(false, x.beats(0, 4));
        due(false, x.beats(4, 0));
        due(false, x.beats(0, -1));
        for (int far : FAR) {
            due(false, x.beats(far, 3));
            due(false, x.beats(0, far));
        }
    }

    private static void winners() {
        MagpieAccounts x = edge(45, "NONE: none");
        due(NONE, x.winner());
        x.votes(0, 1);
        due(0, x.winner());
        // 0 and 3 are alike: none BEATS the other.
        x.votes(1, 1);
        x.ranks(1, 23);
        due(NONE, x.winner());

        x = edge(46, "NONE for others");
        x.votes(0, 1);
        due(3, x.points(0));
        due(0, x.points(3));
        due(NONE, x.points(4));
        due(NONE, x.points(-1));
        for (int far : FAR) due(NONE, x.points(far));

        x = edge(47, "A RUNOFF: the cause");
        due(0, x.runoff());
        x.votes(2, 1);
        x.ranks(2, 23);
        due(3, x.runoff());
    }

    private static void digits() {
        MagpieAccounts x = edge(48, "NONE for others");
        due(1, x.digits(0, 0));
        due(100, x.digits(99, 50));
        due(NONE, x.digits(-1, 5));
        due(NONE, x.digits(100, 5));
        due(NONE, x.digits(5, -1));
        due(NONE, x.digits(5, 51));
        for (int far : FAR) {
            due(NONE, x.digits(far, 5));
            due(NONE, x.digits(5, far));
        }

        x = edge(49, "NONE for others, or if there is none such");
        due(6, x.digit(99, 50, 0));
        due(1, x.digit(99, 50, 99));
        due(NONE, x.digit(99, 50, 100));
        due(NONE, x.digit(99, 50, -1));
        due(1, x.digit(5, 0, 0));
        due(NONE, x.digit(5, 0, 1));
        due(NONE, x.digit(-1, 5, 0));
        due(NONE, x.digit(100, 5, 0));
        due(NONE, x.digit(5, -1, 0));
        due(NONE, x.digit(5, 51, 0));
        for (int far : FAR) {
            due(NONE, x.digit(far, 5, 0));
            due(NONE, x.digit(5, far, 0));
            due(NONE, x.digit(5, 5, far));
        }
    }

    private static void depths() {
        MagpieAccounts x = edge(50, "NONE for others (0 .. 999; 0 .. 99)");
        due(0, x.depth(0, 0));
        due(0, x.depth(0, 99));
        due(999, x.depth(999, 0));
        due(0, x.depth(999, 99));
        due(NONE, x.depth(-1, 0));
        due(NONE, x.depth(1000, 0));
        due(NONE, x.depth(5, -1));
        due(NONE, x.depth(5, 100));
        for (int far : FAR) {
            due(NONE, x.depth(far, 0));
            due(NONE, x.depth(5, far));
        }

        x = edge(51, "NONE for others");
        due(0, x.rests(0));
        due(16, x.rests(999));
        due(NONE, x.rests(-1));
        due(NONE, x.rests(1000));
        for (int far : FAR) due(NONE, x.rests(far));
    }

    private static void games() {
        MagpieAccounts x = edge(52, "NONE for others (0 .. 40)");
        due(0, x.game(0));
        due(1, x.game(40));
        due(NONE, x.game(-1));
        due(NONE, x.game(41));
        for (int far : FAR) due(NONE, x.game(far));

        x = edge(53, "NONE: none wins, and for others (0 .. 40; 1 .. 40)");
        due(NONE, x.take(0, 1));
        due(1, x.take(1, 1));
        due(1, x.take(40, 40));
        due(NONE, x.take(34, 33));
        due(NONE, x.take(-1, 1));
        due(NONE, x.take(41, 40));
        due(NONE, x.take(40, 0));
        due(NONE, x.take(40, 41));
        due(NONE, x.take(40, -1));
        for (int far : FAR) {
            due(NONE, x.take(far, 1));
            due(NONE, x.take(1, far));
        }
    }

    private static void told() {
        MagpieAccounts x = edge(54, "TOLD: how many there are (count NONE: none any more)");
        tell(x, "brings 5;");
        due(0, x.told(NONE, 0));
        due(1, x.told(0, -99));
        due(2, x.told(8, 99));
        due(0, x.whose());
        due(0, x.told(NONE, 0));
        due(0, x.about(5));
        due(1, x.whose());
        due(1, x.told(8, 5));
        due(1, x.whose());

        x = edge(54, "-2 for others (0 .. 8; -99 .. 99), or if there are 8");
        due(-2, x.told(-2, 0));
        due(-2, x.told(9, 0));
        due(-2, x.told(0, -100));
        due(-2, x.told(0, 100));
        for (int far : FAR) {
            due(-2, x.told(far, 0));
            due(-2, x.told(0, far));
        }
        due(0, x.about(5));
        for (int i = 1; i <= 8; i++) due(i, x.told(3, 7));
        due(-2, x.told(3, 7));
        due(-2, x.told(9, 7));
        due(8, x.about(5));
        due(0, x.told(NONE, 7));
        due(1, x.told(3, 7));

        x = edge(55, "WHOSE LAW (bits)");
        due(0, x.whose());
        for (int i = 0; i < 4; i++) tell(x, "brings " + i / 3 + ";");
        due(15, x.whose());
        x.told(0, 1);
        due(8, x.whose());
        x.told(8, 0);
        due(0, x.whose());
    }

    private static void eldestAndDue() {
        MagpieAccounts x = edge(56, "NONE: none");
        due(NONE, x.eldest());
        birds(x, 8, 0);
        x.day(60);
        due(NONE, x.eldest());
        x.by(tell(x, "chance if number=7 then 10 else 0 end;"));
        x.day(1);
        due(7, x.eldest());

        x = edge(57, "DUE: BIRDS (bits)");
        due(0, x.due());
        birds(x, 8, 0);
        due(255, x.due());
        for (int bird = 0; bird < 8; bird++) x.thin(bird);
        due(0, x.due());
    }

    private static void ledger() {
        MagpieAccounts x = edge(58, "-2 for others");
        due(0, x.ledger(0));
        due(0, x.ledger(9));
        x.rhyme(0, 9);
        x.day(30);
        due(25, x.ledger(9));
        due(-2, x.ledger(-1));
        due(-2, x.ledger(10));
        for (int far : FAR) due(-2, x.ledger(far));
    }

    private static void image() {
        MagpieAccounts x = edge(59, "THE IMAGE is as all is now: DAY");
        due(0, x.image());
        x.day(60);
        due(60, x.image());
        x.day(60);
        due(60, x.back());
        passDays(x, 9999 - 60);
        due(9999, x.image());
        x.undo();
        due(9999, x.back());

        // What is done behind BACK leaves THE IMAGE as it was: its STEPS, its BOOK, all its rows.
        x = edge(60, "BACK to THE IMAGE (it stays): DAY");
        due(0, x.back());
        birds(x, 1, 10);
        x.day(40);
        due(40, x.image());
        due(40, x.back());
        for (int round = 0; round < 2; round++) {
            for (int i = 29; i >= 0; i--) due(i, x.undo());
            due(10, x.is(0));
            due(10, x.of(0, 4));
            due(10, x.book(NONE, 0));
            x.grant(500);
            x.thin(0);
            due(40, x.back());
            due(30, x.about(3));
            due(25, x.book(NONE, 0));
            due(15, x.book(0, 0));
        }
        x.undo();
        due(39, x.is(0));
        due(-39, x.is(2));
    }

    private static void about() {
        MagpieAccounts x = edge(61, "2 THE TEXT (NONE)");
        due(NONE, x.about(2));
        tell(x, "");
        x.by(0);
        due(0, x.about(2));
        x.by(NONE);
        due(NONE, x.about(2));

        x = edge(61, "-2 for others");
        for (int i = 0; i < 4; i++) tell(x, "");
        x.by(3);
        birds(x, 9, 5);
        x.day(60);
        for (int i = 0; i < 13; i++) x.morning(i, true);
        for (int i = 0; i < 9; i++) x.told(i, 0);
        for (int i = 0; i < 16; i++) x.feed(0, 0, 0, 0, 0);
        int[] full = {8, 4, 3, 30, 12, 8, 300};
        for (int what = 0; what < 7; what++) due(full[what], x.about(what));
        due(-2, x.about(7));
        due(-2, x.about(-1));
        for (int far : FAR) due(-2, x.about(far));
    }
}
