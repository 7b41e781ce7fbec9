import java.io.IOException;
import java.util.List;
import java.util.StringJoiner;

/** A test for each sentence of the terms and of the parts I to V that names a boundary, with that sentence as its name. */
public final class EdgesOfTermsTest extends Edges {
    public static void main(String[] args) throws IOException {
        birds();
        firstValues();
        draws();
        days();
        book();
        steps();
        tokens();
        clauses();
        sums();
        names();
        faultsByPlace();
        whereTokensStand();
        faultNumbers();
        faultsOpen();
        faultsOfClauses();
        laws();
        played();
        foretold();
        chances();
        best();
        mornings();
        rotaAndGathering();
        comes();
        follows();
        tests();
        seats();
        causes();
        numbers();
        games();
        whose();
        years();
        image();
        constants();
        manyCalls();
        checkQuotes(0, 0);
        finish("the edges of the terms hold");
    }

    // ---- Terms

    private static void birds() {
        MagpieAccounts x = edge(0, "PERIOD 1 .. 12, PHASE 0 .. PERIOD less 1, ODDS 0 .. 10");
        x.bird(1, 0, 0);
        x.bird(12, 0, 10);
        x.bird(12, 11, 10);
        due(0b011, x.rota(0));
        due(0b001, x.rota(1));
        due(0b101, x.rota(11));
        due(0b011, x.rota(12));
        due(0b101, x.rota(23));
        due(0, x.of(0, 2));
        due(10, x.of(1, 2));

        x = edge(0, "gone or not (at first not)");
        x.bird(1, 0, 5);
        due(0, x.of(0, 3));
        due(1, x.due());
        due(false, x.call(0));

        x = edge(0, "how often it CAME 0 .. 9999 (at first 0; no more)");
        x.bird(1, 0, 10);
        due(0, x.of(0, 4));
        passDays(x, 9998);
        due(9998, x.of(0, 4));
        x.day(1);
        due(9999, x.of(0, 4));
        due(NONE, x.day(1));
        due(9999, x.years(0, 1));
        due(9999, x.of(0, 4));

        x = edge(0, "DUE: not gone, DAY by PERIOD leaves PHASE");
        x.bird(3, 0, 10);
        x.bird(3, 2, 10);
        due(1, x.due());
        x.day(1);
        due(0, x.due());
        x.day(1);
        due(2, x.due());
        x.day(1);
        due(1, x.due());
        x.thin(0);
        due(0, x.due());
    }

    private static void firstValues() {
        MagpieAccounts x = edge(0, "of each COUNT 0 .. 8 a THING 0 .. 9 (at first that number)");
        for (int count = 0; count <= 8; count++) due(count, x.things(count));
        x.rhyme(0, 9);
        x.rhyme(8, 0);
        due(9, x.things(0));
        due(7, x.things(7));
        due(0, x.things(8));

        x = edge(0, "FUND -9999 .. 9999 (at first 0)");
        due(0, x.is(2));
        for (int i = 0; i < 11; i++) x.grant(909);
        due(9999, x.is(2));
        due(false, x.grant(1));
        for (int i = 0; i < 22; i++) x.grant(-909);
        due(-9999, x.is(2));
        due(false, x.grant(-1));

        // Not the THING of COUNT 0: no DAY has passed.
        x = edge(0, "The latest COUNT, THING 0 at first");
        x.rhyme(0, 5);
        due(0, x.is(3));
        due(0, x.is(4));
        x.day(1);
        due(0, x.is(3));
        due(5, x.is(4));

        x = edge(0, "DAY 0 .. 9999 (at first 0)");
        due(0, x.is(0));
        passDays(x, 9999);
        due(9999, x.is(0));

        x = edge(0, "X: at first 419");
        due(419, x.is(1));
    }

    // The first X are 419, 29908, 24267, 9446, 23598, 523, 5805.
    private static void draws() {
        MagpieAccounts x = edge(0, "BIRDS that are DUE by number: a draw by 10");
        x.bird(2, 1, 10);
        x.bird(1, 0, 10);
        x.thin(1);
        x.day(1);
        due(419, x.is(1));
        x.call(1);
        x.day(1);
        due(24267, x.is(1));
        // Also of those that come always or never.
        x = begin("a draw of chance 0 and of chance 10");
        x.bird(1, 0, 0);
        x.bird(1, 0, 10);
        x.bird(1, 0, 0);
        due(1, x.day(1));
        due(9446, x.is(1));

        x = edge(0, "(X mod 10, X being (X * 661 + 541) mod 30949 then)");
        birds(x, 8, 0);
        x.day(1);
        due(11660, x.is(1));
        x.undo();
        due(419, x.is(1));

        // The draws are 9, 8, 7, 6, 8, 3, 5, 9.
        x = edge(0, "below its chance (as it is then) it comes");
        x.bird(1, 0, 9);
        x.bird(1, 0, 9);
        x.bird(1, 0, 7);
        x.bird(1, 0, 7);
        x.bird(1, 0, 8);
        x.bird(1, 0, 4);
        x.bird(1, 0, 5);
        x.bird(1, 0, 10);
        due(4, x.day(1));
        int[] came = {0, 1, 0, 1, 0, 1, 0, 1};
        for (int bird = 0; bird < 8; bird++) due(came[bird], x.of(bird, 4));
        // Behind eight draws X is 11660, then 1500: both draws are 0.
        x = begin("a draw of 0");
        x.bird(1, 0, 1);
        x.bird(1, 0, 0);
        x.day(4);
        due(0, x.of(0, 4));
        due(11660, x.is(1));
        due(1, x.day(1));
        due(1, x.of(0, 4));
        due(0, x.of(1, 4));
        x = begin("chance as it is then");
        x.by(tell(x, "chance if number=0 then 10 else came(number-1)*10 end;"));
        birds(x, 3, 0);
        due(3, x.day(1));
    }

    private static void days() {
        MagpieAccounts x = edge(0, "COUNT: how many came; THING by THE RHYME");
        birds(x, 8, 10);
        due(8, x.day(1));
        due(8, x.is(3));
        due(8, x.is(4));
        due(6, x.is(2));
        x.rhyme(8, 0);
        x.day(1);
        due(0, x.is(4));
        due(4, x.is(2));
        for (int bird = 0; bird < 8; bird++) x.thin(bird);
        x.rhyme(0, 9);
        due(0, x.day(1));
        due(0, x.is(3));
        due(9, x.is(4));
        due(11, x.is(2));

        x = edge(0, "as it is then, last being the COUNT ahead of it; held at 9999, -9999");
        x.by(tell(x, "brings last*10+count;"));
        birds(x, 2, 10);
        x.day(1);
        due(2, x.is(2));
        x.day(1);
        due(24, x.is(2));
        x = begin("FUND is held at 9999");
        for (int i = 0; i < 10; i++) x.grant(990);
        x.by(tell(x, "brings 99;"));
        x.day(1);
        due(9999, x.is(2));
        x.day(1);
        due(9999, x.is(2));
        x.by(tell(x, "brings -1;"));
        x.day(1);
        due(9998, x.is(2));
        x = begin("FUND is held at -9999");
        for (int i = 0; i < 10; i++) x.grant(-990);
        x.by(tell(x, "brings -99;"));
        x.day(1);
        due(-9999, x.is(2));
        x.day(1);
        due(-9999, x.is(2));
        x.by(tell(x, "brings 1;"));
        x.day(1);
        due(-9998, x.is(2));

        x = edge(0, "DAY is one more (at 9999 none can pass)");
        passDays(x, 9998);
        due(0, x.day(1));
        due(9999, x.is(0));
        due(NONE, x.day(1));
        due(9999, x.is(0));
        x.by(tell(x, "brings 50;"));
        due(x.is(2), x.foretold(1, 0));
        due(0, x.played(tell(x, "day 1;")));
        due(9999, x.years(0, 40));
        due(9999, x.is(0));
        due(9998, x.book(24, 0));

        x = edge(0, "GRANTED: FUND is more (below 0: less)");
        x.grant(12);
        due(12, x.is(2));
        x.grant(-40);
        due(-28, x.is(2));
    }

    private static void book() {
        MagpieAccounts x = edge(0, "BOOK (the latest 25)");
        x.day(24);
        due(24, x.book(NONE, 0));
        x.day(1);
        due(25, x.book(NONE, 0));
        due(0, x.book(0, 0));
        due(24, x.book(24, 0));
        x.day(1);
        due(25, x.book(NONE, 0));
        due(1, x.book(0, 0));
        due(25, x.book(24, 0));
        x.day(60);
        due(25, x.book(NONE, 0));
        due(61, x.book(0, 0));
        due(85, x.book(24, 0));
        // The highest and the lowest of all that a page holds.
        x = begin("a page at the last DAY");
        birds(x, 8, 10);
        x.rhyme(8, 9);
        passDays(x, 9998);
        x.by(tell(x, "brings -99;"));
        x.day(1);
        due(9998, x.book(24, 0));
        due(8, x.book(24, 1));
        due(9, x.book(24, 2));
        due(-99, x.book(24, 3));

        x = edge(0, "what it brought (brings, whatever FUND is held at)");
        for (int i = 0; i < 11; i++) x.grant(909);
        x.by(tell(x, "brings 99;"));
        x.day(1);
        due(9999, x.is(2));
        due(99, x.book(0, 3));
        x.by(tell(x, "brings -99;"));
        x.day(1);
        due(-99, x.book(1, 3));
        due(9900, x.is(2));
    }

    private static void steps() {
        MagpieAccounts x = edge(0, "the latest 30 can be taken back, the latest first");
        for (int i = 0; i < 29; i++) x.grant(1);
        due(29, x.about(3));
        x.grant(1);
        due(30, x.about(3));
        x.grant(1);
        due(30, x.about(3));
        for (int i = 29; i >= 0; i--) {
            due(i, x.undo());
            due(i + 1, x.is(2));
        }
        due(NONE, x.undo());
        due(1, x.is(2));
        x = begin("the row of STEPS goes round");
        for (int i = 0; i < 45; i++) x.grant(1);
        for (int i = 0; i < 10; i++) x.undo();
        for (int i = 0; i < 5; i++) x.grant(100);
        due(25, x.about(3));
        for (int i = 0; i < 5; i++) x.undo();
        due(35, x.is(2));
        for (int i = 0; i < 20; i++) x.undo();
        due(15, x.is(2));
        due(NONE, x.undo());

        x = begin("the row of STEPS goes round twice");
        x.day(60);
        x.day(35);
        for (int day = 94; day >= 65; day--) {
            x.undo();
            due(day, x.is(0));
        }
        due(NONE, x.undo());

        x = edge(0, "STEPS: THINNED, CALLED BACK, GRANTED, a DAY (each), YEARS (see V)");
        x.bird(1, 0, 5);
        x.rhyme(0, 3);
        tell(x, "day 3;");
        x.by(0);
        x.votes(0, 1);
        x.morning(1, true);
        x.told(1, 1);
        due(0, x.about(3));
        x.thin(0);
        due(1, x.about(3));
        x.call(0);
        due(2, x.about(3));
        x.grant(1);
        due(3, x.about(3));
        x.day(4);
        due(7, x.about(3));
        x.played(0);
        due(10, x.about(3));
        x.years(0, 40);
        due(11, x.about(3));

        // The page that the 26th DAY took from the BOOK is there again.
        x = edge(0, "(who is gone, how often they CAME, FUND, COUNT, THING, DAY, X, BOOK are as ahead of it");
        x.bird(1, 0, 9);
        x.bird(1, 0, 10);
        x.day(25);
        x.thin(0);
        String ahead = state(x);
        due(0, x.book(0, 0));
        x.day(1);
        due(1, x.book(0, 0));
        x.undo();
        due(0, x.book(0, 0));
        due(24, x.book(24, 0));
        same(ahead, state(x));
        x.years(44, 40);
        x.undo();
        same(ahead, state(x));

        x = edge(0, "BIRDS told since aren't gone and never came)");
        x.grant(5);
        birds(x, 2, 10);
        x.day(2);
        x.thin(1);
        x.undo();
        due(0, x.of(1, 3));
        due(2, x.of(1, 4));
        x.thin(1);
        for (int i = 0; i < 4; i++) x.undo();
        due(2, x.about(0));
        due(0, x.of(0, 3));
        due(0, x.of(1, 3));
        due(0, x.of(0, 4));
        due(0, x.of(1, 4));
        due(0, x.is(2));
    }

    // ---- II

    private static void tokens() {
        MagpieAccounts x = edge(0, "TEXTS 0 .. 3: of up to 300 bytes");
        for (int text = 0; text < 4; text++) due(text, tell(x, "brings " + (text + 1) + times(145, "+0") + "; "));
        due(NONE, tell(x, ""));
        for (int text = 0; text < 4; text++) {
            due(true, x.by(text));
            due(text + 1, x.brings(0));
        }
        due(false, x.by(4));
        faulty(1, 300, "brings " + times(146, "1+") + "1");
        right(times(300, " "));
        right("");
        // As many TOKENS as bytes; a sign that could be longer as the last byte, and one that is.
        faulty(1, 0, times(300, ";"));
        faulty(1, 300, "chance if 1" + times(144, "+1") + "<");
        faulty(1, 300, "chance if 1" + times(144, "+1") + ">");
        faulty(1, 13, "chance if 1<=");
        faulty(1, 13, "chance if 1>=");

        edge(0, "blanks (32, 10) aside");
        right(" \n day \n 1 \n ; \n ");
        right("day1;day 2;");
        faulty(1, 3, "day\t1;");
        faulty(1, 3, "day\r1;");
        faulty(1, 3, "day\0001;");
        faulty(1, 3, "day\u00a01;");
        faulty(1, 3, "day\u000b1;");
        faulty(1, 3, "day\u001f1;");
        faulty(1, 3, "day!1;");
        // A blank parts what would be one TOKEN.
        faulty(1, 0, "da y 1;");
        faulty(1, 6, "day 1 0;");
        faulty(1, 13, "chance if 1< =2 then 1 else 2 end;");
        faulty(1, 13, "chance if 1> =2 then 1 else 2 end;");

        edge(0, "letters a .. z, A .. Z one behind the other (one TOKEN)");
        for (char letter : "azAZmM".toCharArray()) faulty(1, 0, "day" + letter + " 1;");
        for (char other : "@[`{".toCharArray()) faulty(1, 3, "day" + other + " 1;");
        faulty(1, 3, "day\u00e9 1;");
        faulty(1, 0, "DAY 1;");
        faulty(1, 0, "chances 1;");
        faulty(1, 0, "chanc 1;");
        faulty(1, 9, "chance 1 daylast;");

        edge(0, "digits likewise (NUMBERS, 0 .. 9999)");
        brings(9, "0009");
        brings(0, "0");
        brings(99, "9999/101");
        right("chance 00000000000000000000000009999;");
        faulty(2, 7, "chance 10000;");
        faulty(2, 7, "chance 00010000;");
        faulty(1, 5, "day 1:;");
        faulty(1, 5, "day 6a;");

        edge(0, "<= >= < > = # + - * / ( ) ; (the longest)");
        brings(1, "if 2<=2 then 1 else 2 end");
        brings(1, "if 2>=2 then 1 else 2 end");
        faulty(1, 12, "chance if 1=<2 then 1 else 2 end;");
        faulty(1, 12, "chance if 1=>2 then 1 else 2 end;");
        faulty(1, 12, "chance if 1==2 then 1 else 2 end;");
        faulty(1, 12, "chance if 1<>2 then 1 else 2 end;");
        faulty(1, 12, "chance if 1##2 then 1 else 2 end;");
        faulty(1, 13, "chance if 1<==2 then 1 else 2 end;");
        faulty(1, 11, "chance if 1!2 then 1 else 2 end;");
        right("chance 1--1;");
    }

    private static void clauses() {
        MagpieAccounts x = edge(0, "{CLAUSE}, 24 at most");
        due(0, tell(x, ""));
        due(NONE, x.played(0));
        due(1, tell(x, times(24, "day 1;")));
        due(NONE, x.played(1));
        due(24, x.is(0));
        faulty(6, 144, times(25, "day 1;"));

        edge(0, "chance SUM ; or brings SUM ; (each once)");
        right("chance 1;brings 1;");
        right("brings 1;chance 1;");
        faulty(4, 9, "chance 1;chance 1;");
        faulty(4, 9, "brings 1;brings 1;");

        x = edge(0, "bird NUMBER odds NUMBER ; (PERIOD; PHASE 0)");
        x.played(tell(x, "bird 12 odds 10;bird 1 odds 0;"));
        due(12, x.of(0, 0));
        due(0, x.of(0, 1));
        due(10, x.of(0, 2));
        due(1, x.of(1, 0));
        due(0, x.of(1, 2));

        x = edge(0, "rhyme NUMBER by NUMBER ; (COUNT, THING)");
        x.played(tell(x, "rhyme 8 by 0;rhyme 0 by 9;"));
        due(0, x.things(8));
        due(9, x.things(0));
    }

    private static void sums() {
        edge(0, "From the left; / cuts towards 0, by 0 it is 0");
        brings(-4, "1-2-3");
        brings(2, "12/3/2");
        brings(8, "12/3*2");
        brings(0, "2/3*3");
        brings(2, "8/3");
        brings(-2, "-8/3");
        brings(-2, "8/-3");
        brings(2, "-8/-3");
        brings(0, "-2/3");
        brings(0, "7/0");
        brings(0, "-7/0");
        brings(0, "0/0");
        brings(5, "5+7/(3-count)");

        edge(0, "what is above 1000000 (below the same less) is that, at each step");
        brings(0, "1000*1000-1000*1000");
        brings(99, "(1000*1000)/1000-901");
        brings(-1, "1000*1000+1-1-1000*1000");
        brings(1, "0-1000*1000-1+1+1000*1000");
        brings(50, "9999*9999/(9999+9999+2)");
        brings(-50, "9999*-9999/(9999+9999+2)");
        brings(50, "-9999*-9999/(9999+9999+2)");
        brings(1, "9999*9999*9999*9999/1000/1000");
        brings(1, "(999*1000+999+1)/1000/1000");
        brings(0, "(999*1000+999)/1000/1000");
        brings(-1, "-(9999*9999)/1000/1000");
        brings(0, "1001*1000-1000*1000");
        brings(0, "-1001*1000+1000*1000");
        brings(-1, "1000*1000--1-1-1000*1000");
        brings(1, "-1000*1000+-1+1+1000*1000");

        edge(0, "or and and look at both sides always, of if just the SUM that is chosen is asked");
        brings(1, "if 1=1 or 1/0=1 then 1 else 2 end");
        brings(2, "if 1=2 and 1/0=0 then 1 else 2 end");
        brings(1, "if 1=1 then 1 else 9999*9999 end");
        brings(2, "if 1=2 then 9999*9999 else 2 end");
        // What was asked is gone behind it: what stands ahead is left as it was.
        brings(2, "5-if 1=1 then 3 else 9 end");
        brings(-4, "5-if 1=2 then 3 else 9 end");
        brings(47, "5*if 1=2 then 3 else 9 end+if 1=1 then 2 else 3 end");
    }

    private static void names() {
        MagpieAccounts x = edge(0, "rhyme ONE (the THING of the COUNT of that number; 0 for others)");
        for (int count = 0; count <= 8; count++) x.rhyme(count, 7);
        x.by(tell(x, "brings rhyme 0*10+rhyme 8;"));
        due(77, x.brings(0));
        x.by(tell(x, "brings rhyme 9+rhyme -1+rhyme 9999+rhyme(0-9999*9999);"));
        due(0, x.brings(0));

        x = edge(0, "came ONE (how often the BIRD of that number CAME; 0 for others)");
        birds(x, 7, 10);
        x.day(3);
        x.by(tell(x, "brings came 0*10+came 6;"));
        due(33, x.brings(0));
        x.by(tell(x, "brings came 7+came 8+came -1+came 9999;"));
        due(0, x.brings(0));
        x.bird(1, 0, 10);
        x.day(1);
        due(1, x.brings(0));

        x = edge(0, "gone (how many BIRDS are) in both");
        birds(x, 8, 10);
        x.by(tell(x, "chance gone;brings gone;"));
        due(0, x.brings(0));
        due(0, x.of(0, 5));
        for (int bird = 0; bird < 8; bird++) x.thin(bird);
        due(8, x.brings(0));
        due(8, x.of(0, 5));

        x = edge(0, "last (the latest COUNT)");
        x.by(tell(x, "brings last;"));
        due(0, x.brings(8));
        birds(x, 8, 10);
        x.day(1);
        due(8, x.brings(0));

        x = edge(0, "thing (of it by THE RHYME as it is, of any COUNT that is asked) in brings");
        x.by(tell(x, "brings count*10+thing;"));
        due(0, x.brings(0));
        due(88, x.brings(8));
        x.rhyme(8, 0);
        due(80, x.brings(8));
        x = begin("number, odds, period in chance");
        birds(x, 7, 10);
        x.bird(12, 11, 0);
        x.by(tell(x, "chance number;"));
        due(0, x.of(0, 5));
        due(7, x.of(7, 5));
        x.by(tell(x, "chance odds;"));
        due(10, x.of(0, 5));
        due(0, x.of(7, 5));
        x.by(tell(x, "chance period-3;"));
        due(0, x.of(0, 5));
        due(9, x.of(7, 5));
    }

    private static void faultsByPlace() {
        edge(0, "the first as TOKENS are come to");
        faulty(2, 4, "day 61;chance count;?");
        faulty(5, 7, "chance count+10000;");
        faulty(2, 7, "chance 10000+count;");
        faulty(1, 4, "day ;day 61;");

        edge(0, "at the TOKEN's first byte (of the end at the length)");
        faulty(1, 0, "abcdef");
        faulty(2, 6, "day   00061;");
        faulty(1, 3, "day");
        faulty(1, 5, "day\n ");
        faulty(1, 8, "chance 1");
        faulty(1, 7, "chance ");
        faulty(1, 6, "chance");
        faulty(1, 8, "chance (");

        edge(0, "of one the least");
        // A NUMBER too high, the 9th that is open, a NAME of the other law: where they can't stand at all.
        faulty(1, 9, "chance 1 10000;");
        faulty(1, 16, "chance ((((((((1(");
        faulty(1, 9, "chance 1 count;");
        faulty(1, 144, times(24, "day 1;") + "count;");
        // A law told twice as the 25th CLAUSE.
        faulty(4, 147, "chance 1;" + times(23, "day 1;") + "chance 1;");
        faulty(4, 147, "brings 1;" + times(23, "day 1;") + "brings 1;");

        edge(0, "1 it can't stand there, or is none");
        faulty(1, 0, ";");
        faulty(1, 6, "day 1;;");
        faulty(1, 0, "1;");
        faulty(1, 0, "odds 1;");
        faulty(1, 0, "came 1;");
        faulty(1, 0, "fund 1;");
        faulty(1, 4, "day day;");
        faulty(1, 4, "day -1;");
        faulty(1, 4, "day (1);");
        faulty(1, 8, "bird 12 by 3;");
        faulty(1, 8, "rhyme 1 odds 3;");
        faulty(1, 7, "chance +1;");
        faulty(1, 9, "chance 1+;");
        faulty(1, 9, "chance 1**2;");
        faulty(1, 8, "chance ();");
        faulty(1, 7, "chance not 1=1;");
        faulty(1, 10, "chance if then 1 else 2 end;");
        faulty(1, 11, "chance if 1then 1 else 2 end;");
        faulty(1, 14, "chance if 1=1 1 else 2 end;");
        faulty(1, 21, "chance if 1=1 then 1 end;");
        faulty(1, 28, "chance if 1=1 then 1 else 2 ;");
        faulty(1, 14, "chance if 1=1 not 1=1 then 1 else 2 end;");
        faulty(1, 12, "chance if (1=1) then 1 else 2 end;");
        faulty(1, 13, "chance if 1=1=1 then 1 else 2 end;");
        faulty(1, 12, "chance rhyme;");
        faulty(1, 7, "chance chance;");
        faulty(1, 7, "chance bird;");
    }

    private static final String[] ALL_TOKENS = {"chance", "brings", "bird", "odds", "rhyme", "by", "thin", "call", "grant", "day",
        "fund", "last", "gone", "number", "period", "count", "thing", "came", "if", "then", "else", "end", "or", "and", "not",
        "<=", ">=", "<", ">", "=", "#", "+", "-", "*", "/", "(", ")", ";", "5", "word", "!", "\u00ff"};

    // Behind these bytes just these TOKENS can stand, and these NAMES are of the other law: each other one is a FAULT 1.
    private static void stand(String ahead, String those, String strange) {
        int place = ahead.length() + 1;
        for (String token : ALL_TOKENS) {
            MagpieAccounts x = new MagpieAccounts();
            tell(x, ahead + " " + token);
            if (has(those, token)) {
                due(true, x.fault(0) == 0 || x.fault(1) == place + token.length());
            } else {
                due(has(strange, token) ? 5 : 1, x.fault(0));
                due(place, x.fault(1));
            }
        }
    }

    private static boolean has(String tokens, String token) {
        return List.of(tokens.split(" ")).contains(token);
    }

    private static void whereTokensStand() {
        begin("where TOKENS can stand");
        String verbs = "chance brings bird rhyme thin call grant day";
        stand("", verbs, "");
        stand("day 1;", verbs, "");
        for (String verb : new String[] {"bird", "rhyme", "thin", "call", "grant", "day", "bird 5 odds", "rhyme 5 by"}) stand(verb, "5", "");
        stand("bird 5", "odds", "");
        stand("rhyme 5", "by", "");
        for (String row : new String[] {"thin 5", "call 5", "grant 5", "day 5", "bird 5 odds 5", "rhyme 5 by 5"}) stand(row, ";", "");
        String one = "day fund last gone 5 ( - rhyme came if";
        for (String sum : new String[] {"", "1+", "1-", "1*", "1/", "(", "-", "rhyme", "came", "if 1=1 then", "if 1=1 then 1 else"}) {
            stand("chance " + sum, one + " number odds period", "count thing");
            stand("brings " + sum, one + " count thing", "number odds period");
        }
        for (String ask : new String[] {"if", "if not", "if 1=1 or", "if 1=1 and", "if not not"}) {
            stand("chance " + ask, one + " not number odds period", "count thing");
            stand("brings " + ask, one + " not count thing", "number odds period");
        }
        for (String sign : new String[] {"<", "<=", ">", ">=", "=", "#"}) {
            stand("brings if 1" + sign, one + " count thing", "number odds period");
        }
        stand("brings 1", "+ - * / ;", "");
        stand("brings (1", "+ - * / )", "");
        stand("brings rhyme 1", "+ - * / ;", "");
        stand("brings if 1", "+ - * / < <= > >= = #", "");
        stand("brings if (1", "+ - * / )", "");
        stand("brings if 1=1", "+ - * / or and then", "");
        stand("brings if not 1=1", "+ - * / or and then", "");
        stand("brings if 1=1 then 1", "+ - * / else", "");
        stand("brings if 1=1 then 1 else 1", "+ - * / end", "");
        stand("brings if 1=1 then 1 else 1 end", "+ - * / ;", "");
    }

    private static void faultNumbers() {
        edge(0, "2 a NUMBER that isn't one of those told (above 9999; PERIOD 1 .. 12, ODDS 0 .. 10, COUNTS 0 .. 8, THINGS 0 .. 9, "
            + "BIRDS 0 .. 7, of grant 1 .. 999, DAYS 1 .. 60)");
        right("brings 9999;");
        faulty(2, 7, "brings 10000;");
        faulty(2, 7, "brings 2147483648;");
        faulty(2, 7, "brings 4294967296;");
        faulty(2, 7, "brings 18446744073709551616;");
        faulty(2, 9, "brings 1+" + times(200, "9") + ";");
        number("bird ", 1, 12, " odds 0;");
        number("bird 1 odds ", 0, 10, ";");
        number("rhyme ", 0, 8, " by 0;");
        number("rhyme 0 by ", 0, 9, ";");
        number("thin ", 0, 7, ";");
        number("call ", 0, 7, ";");
        number("grant ", 1, 999, ";");
        number("day ", 1, 60, ";");
    }

    private static void number(String ahead, int low, int high, String behind) {
        right(ahead + low + behind);
        right(ahead + high + behind);
        if (low > 0) faulty(2, ahead.length(), ahead + (low - 1) + behind);
        faulty(2, ahead.length(), ahead + (high + 1) + behind);
        faulty(2, ahead.length(), ahead + 10000 + behind);
        // A number that would be one of those by the wrap-around of an int.
        faulty(2, ahead.length(), ahead + ((1L << 32) + low) + behind);
    }

    private static void faultsOpen() {
        edge(0, "3 the 9th of ( not rhyme came if and - (of one ONE) that are open around one another (at it)");
        right("brings " + times(8, "(") + "1" + times(8, ")") + ";");
        faulty(3, 15, "brings " + times(9, "(") + "1" + times(9, ")") + ";");
        right("brings " + times(8, "-") + "1;");
        faulty(3, 15, "brings " + times(9, "-") + "1;");
        right("brings " + times(8, "rhyme ") + "1;");
        faulty(3, 55, "brings " + times(9, "rhyme ") + "1;");
        right("brings " + times(8, "came ") + "1;");
        faulty(3, 47, "brings " + times(9, "came ") + "1;");
        right("brings if " + times(7, "not ") + "1=1 then 1 else 2 end;");
        faulty(3, 38, "brings if " + times(8, "not ") + "1=1 then 1 else 2 end;");
        right("brings " + times(7, "(") + "if 1=1 then 1 else 2 end" + times(7, ")") + ";");
        faulty(3, 15, "brings " + times(8, "(") + "if 1=1 then 1 else 2 end" + times(8, ")") + ";");
        right("brings " + times(8, "if 1=") + "1" + times(8, " then 1 else 2 end") + ";");
        faulty(3, 47, "brings " + times(9, "if 1=") + "1" + times(9, " then 1 else 2 end") + ";");
        // In every part of what is open: on both sides of a sign, behind then, behind else.
        faulty(3, 33, "brings if " + times(7, "(") + "1" + times(7, ")") + "=" + times(5, "-") + "(((1))) then 1 else 2 end;");
        faulty(3, 25, "brings (((((((if 1=1 then-1 else 2 end)))))));");
        faulty(3, 32, "brings (((((((if 1=1 then 1 else-2 end)))))));");
        // What is shut is open no more; the - of two PRODUCTS opens nothing.
        right("brings " + times(2, times(8, "(") + "1" + times(8, ")") + "-") + times(8, "-") + "1;");
        right("brings " + times(8, "(") + "1-1-1" + times(8, ")") + ";");
        right("brings if not 1=1 and not 1=1 or not 1=1 and not 1=1 and not 1=1 or not 1=1 and not 1=1 then 1 else 2 end;");
        right("brings " + times(20, "-1*") + "rhyme 1+came 1+rhyme 1+came 1+rhyme 1+came 1+rhyme 1+came 1+rhyme 1;");
        // One kind around the other.
        right("brings (-rhyme came if not -(1)=1 then 1 else 2 end);");
        faulty(3, 29, "brings (-rhyme came if not -(rhyme 1)=1 then 1 else 2 end);");
    }

    private static void faultsOfClauses() {
        edge(0, "4 chance, brings for the second time (at it)");
        faulty(4, 9, "chance 1;chance 1;");
        faulty(4, 24, "brings 1;chance 1;day 1;brings count count;");

        edge(0, "5 a NAME that isn't of that CLAUSE (at it)");
        right("chance day+fund+last+gone+number+odds+period;");
        right("brings day+fund+last+gone+count+thing;");
        faulty(5, 7, "chance count;");
        faulty(5, 9, "chance 1+thing;");
        faulty(5, 7, "brings number;");
        faulty(5, 9, "brings 1+odds;");
        faulty(5, 8, "brings (period);");
        faulty(5, 17, "chance 1;brings  odds;");
        faulty(5, 17, "brings 1;chance  count;");

        edge(0, "6 the 25th CLAUSE (at its first TOKEN)");
        right(times(24, "day 1;") + " \n");
        faulty(6, 146, times(24, "day 1;") + "  day 61;");
        faulty(6, 144, times(24, "day 1;") + "chance 1;");
        faulty(6, 147, "brings 1;" + times(23, "day 1;") + "chance 1;");
    }

    private static void laws() {
        MagpieAccounts x = edge(0, "THE TEXT (told; at first none) rules");
        due(NONE, x.about(2));
        tell(x, "brings 7;");
        due(NONE, x.about(2));
        due(1, x.brings(3));
        x.by(0);
        due(7, x.brings(3));

        x = edge(0, "chance (of 10): 0 at least, 10 at most; without: ODDS");
        x.bird(1, 0, 4);
        due(4, x.of(0, 5));
        int[] sums = {-9999, -1, 0, 1, 9, 10, 11, 9999};
        int[] chances = {0, 0, 0, 1, 9, 10, 10, 10};
        for (int i = 0; i < sums.length; i++) {
            x.by(tell(x, "chance 0+" + (sums[i] < 0 ? "-" : "") + Math.abs(sums[i]) + ";"));
            due(chances[i], x.of(0, 5));
            x.by(NONE);
            if (x.about(1) == 4) x.back();
            if (x.about(0) == 0) x.bird(1, 0, 4);
        }
        x.by(tell(x, "brings 9;"));
        due(4, x.of(0, 5));

        edge(0, "brings: -99 at least, 99 at most; without: THING less 2");
        brings(-99, "-9999");
        brings(-99, "-100");
        brings(-99, "-99");
        brings(-98, "-98");
        brings(98, "98");
        brings(99, "99");
        brings(99, "100");
        brings(99, "9999");
        x = ruled("chance 9;");
        x.rhyme(0, 0);
        x.rhyme(8, 9);
        due(-2, x.brings(0));
        due(7, x.brings(8));
    }

    private static void played() {
        MagpieAccounts x = edge(0, "PLAYED by a TEXT: its CLAUSES but laws, in their order, as by hand");
        x.bird(1, 0, 10);
        tell(x, "chance 0;thin 0;brings 50;call 0;day 1;grant 3;");
        due(NONE, x.played(0));
        due(NONE, x.about(2));
        due(1, x.of(0, 4));
        due(-1 + 3, x.is(2));
        due(4, x.about(3));

        x = edge(0, "one that can't be ends it");
        due(0, tell(x, "thin 0;grant 1;"));
        due(0, x.played(0));
        due(0, x.is(2));
        due(0, x.about(3));
        x.bird(1, 0, 5);
        due(NONE, x.played(0));
        due(0, x.played(0));
        due(1, tell(x, "grant 2;call 0;call 0;grant 9;"));
        due(2, x.played(1));
        due(1 + 2, x.is(2));
        due(2, tell(x, times(8, "bird 1 odds 1;") + "grant 9;"));
        due(7, x.played(2));
        due(8, x.about(0));
        due(0, x.played(2));
        due(3, tell(x, "grant 9;grant 1;"));
        for (int i = 0; i < 10; i++) x.grant(999);
        due(9993, x.is(2));
        due(0, x.played(3));
        x.grant(-3);
        due(1, x.played(3));
        due(9999, x.is(2));

        x = edge(0, "(of so many DAYS those that can pass do)");
        passDays(x, 9970);
        tell(x, "grant 7;day 30;grant 9;");
        x.by(tell(x, "brings 1;"));
        int fund = x.is(2);
        due(1, x.played(0));
        due(9999, x.is(0));
        due(fund + 7 + 29, x.is(2));
        due(30, x.about(3));
        x.undo();
        due(9998, x.is(0));
        due(2, tell(x, "day 1;"));
        due(NONE, x.played(2));
        due(0, x.played(2));

        x = edge(0, "its number among all CLAUSES (from 0); what was done stays");
        tell(x, "chance 1;brings 1;grant 5;rhyme 0 by 9;bird 2 odds 3;thin 0;thin 0;grant 1;");
        due(6, x.played(0));
        due(5, x.is(2));
        due(9, x.things(0));
        due(1, x.about(0));
        due(1, x.of(0, 3));
        due(2, x.about(3));
        // The last of 24.
        x = begin("the last of 24 CLAUSES");
        tell(x, times(23, "day 1;") + "call 0;");
        due(23, x.played(0));
        due(23, x.is(0));
    }

    // ---- III

    private static void foretold() {
        MagpieAccounts x = edge(0, "FORETOLD behind n DAYS (1 .. 60; those that can pass), nothing else being done");
        birds(x, 2, 10);
        x.by(tell(x, "brings day-20;"));
        String ahead = stateAndTape(x);
        due(-20, x.foretold(1, 0));
        due(2, x.foretold(1, 1));
        due(59 * 60 / 2 - 20 * 60, x.foretold(60, 0));
        due(-100000, x.foretold(0, 0));
        due(-100000, x.foretold(61, 0));
        same(ahead, stateAndTape(x));
        x = begin("FORETOLD at the last DAYS");
        passDays(x, 9997);
        x.by(tell(x, "brings 10;"));
        int fund = x.is(2);
        due(fund + 10, x.foretold(1, 0));
        due(fund + 20, x.foretold(2, 0));
        due(fund + 20, x.foretold(3, 0));
        due(fund + 20, x.foretold(60, 0));
        x.day(2);
        due(fund + 20, x.foretold(1, 0));
        due(0, x.foretold(60, 1));
        due(9999, x.is(0));
    }

    private static void chances() {
        MagpieAccounts x = edge(0, "one by one, in lowest terms");
        due(1, x.likely(0, false));
        due(1, x.likely(0, true));
        due(0, x.likely(1, false));
        due(1, x.likely(1, true));
        birds(x, 8, 10);
        due(1, x.likely(8, false));
        due(1, x.likely(8, true));
        due(0, x.likely(7, false));
        due(1, x.likely(7, true));
        x = begin("LIKELY by the lowest odds");
        birds(x, 8, 1);
        due(1, x.likely(8, false));
        due(100000000, x.likely(8, true));
        due(43046721, x.likely(0, false));
        due(100000000, x.likely(0, true));
        due(9, x.likely(7, false));
        due(12500000, x.likely(7, true));
        x = begin("LIKELY in lowest terms");
        birds(x, 8, 5);
        due(1, x.likely(0, false));
        due(256, x.likely(0, true));
        due(35, x.likely(4, false));
        due(128, x.likely(4, true));

        // Chances as now: what one that comes would change is not looked at.
        x = edge(0, "each that is DUE by its chance (as now) of 10");
        x.by(tell(x, "chance 5-came 0*5;"));
        birds(x, 2, 0);
        x.bird(2, 1, 0);
        x.bird(1, 0, 0);
        x.thin(3);
        due(1, x.likely(2, false));
        due(4, x.likely(2, true));
        due(0, x.likely(3, false));

        x = edge(0, "MEAN: how many come on the whole, in lowest terms");
        due(0, x.mean(false));
        due(1, x.mean(true));
        birds(x, 8, 10);
        due(8, x.mean(false));
        due(1, x.mean(true));
        x = begin("MEAN of one");
        x.bird(1, 0, 1);
        due(1, x.mean(false));
        due(10, x.mean(true));
        x.bird(1, 0, 4);
        due(1, x.mean(false));
        due(2, x.mean(true));
    }

    private static void best() {
        MagpieAccounts x = edge(0, "of like ones (also if it can't be at all) the fewest, then the lowest set");
        due(0, x.best(0, false));
        due(0, x.best(8, false));
        x.bird(1, 0, 0);
        x.bird(1, 0, 10);
        x.bird(1, 0, 0);
        x.bird(1, 0, 10);
        // It can't be at all: nobody goes.
        due(0, x.best(3, false));
        due(0, x.best(3, true));
        due(0, x.best(2, false));
        // One of the two that come: the lowest, and none of those that never do.
        due(2, x.best(1, false));
        due(1, x.best(1, true));
        due(10, x.best(0, false));
        due(2, x.best(0, true));
        x = begin("BEST THINNED of eight");
        birds(x, 8, 10);
        int set = 0;
        for (int count = 8; count >= 0; count--) {
            due(set, x.best(count, false));
            due(8 - count, x.best(count, true));
            set = set * 2 + 1;
        }
        x = begin("BIRDS that are DUE");
        x.bird(2, 1, 10);
        birds(x, 2, 10);
        x.bird(1, 0, 10);
        x.thin(3);
        due(6, x.best(0, false));
        due(2, x.best(1, false));
        // Sets that are as likely: by 5 and 5 of ten one comes by 1 of 2, by either alone, too.
        x = begin("sets that are as likely");
        birds(x, 2, 5);
        due(0, x.best(1, false));
        x.bird(1, 0, 5);
        due(1, x.best(1, true));
        // 3 of 8 with all; 1 of 2 with two: the lowest of three.
        due(1, x.best(1, false));
    }

    private static void mornings() {
        MagpieAccounts x = edge(0, "MORNINGS (12 at most; told: on a DAY 0 .. 99 a BIRD came or didn't)");
        for (int i = 1; i <= 12; i++) due(i, x.morning(i % 2 == 0 ? 0 : 99, i % 2 == 0));
        due(-2, x.morning(50, true));
        due(12, x.about(4));
        // Came on 0, not on 99: all PERIODS of PHASE 0 but 1, 3, 9, 11.
        due(8, x.habits());

        x = edge(0, "PERIODS 1 .. 12 with a PHASE by which it came on just those DAYS of the MORNINGS on which it did: how many");
        x.morning(0, true);
        due(12, x.habits());
        x.morning(12, true);
        // What 12 can be divided by: 1, 2, 3, 4, 6, 12.
        due(6, x.habits());
        x.morning(6, false);
        // 4 and 12.
        due(2, x.habits());
        x.morning(4, false);
        due(1, x.habits());
        due(12, x.habit(0));
        x.morning(0, false);
        due(0, x.habits());

        x = edge(0, "(of their latest DAY; without any all fit, from 0 on)");
        due(78, x.habits());
        due(1, x.habit(0));
        due(0, x.habit(1));
        due(0, x.habit(2));
        x.morning(99, true);
        due(100, x.habit(2));
        x.morning(3, false);
        // PERIOD 5 of PHASE 4: 2, 3 and 4 by PHASES 1, 0, 3 would come on 3.
        due(5, x.habit(0));
        due(4, x.habit(1));
        due(104, x.habit(2));
        x.morning(NONE, true);
        x.morning(0, true);
        due(1, x.habit(2));
        // PERIOD 3 of PHASE 1; they are told in any order.
        x.morning(NONE, true);
        x.morning(8, false);
        x.morning(4, true);
        x.morning(6, false);
        x.morning(5, false);
        due(3, x.habit(0));
        due(1, x.habit(1));
        due(10, x.habit(2));

        x = edge(0, "none, if none fits");
        x.morning(5, true);
        x.morning(6, true);
        x.morning(7, false);
        due(NONE, x.habit(0));
        due(NONE, x.habit(1));
        due(NONE, x.habit(2));
        x.bird(1, 0, 5);
        due(0, x.whom());
        // A PERIOD of 13 would fit.
        x.morning(NONE, true);
        x.morning(0, true);
        for (int day = 7; day <= 12; day++) x.morning(day, false);
        due(0, x.habits());
        for (int what = 0; what < 3; what++) due(NONE, x.habit(what));

        x = edge(0, "WHOM: BIRDS (bits) whose PERIOD and PHASE fit");
        for (int i = 0; i < 8; i++) x.bird(8, i, 0);
        due(255, x.whom());
        x.thin(7);
        x.morning(7, true);
        due(128, x.whom());
    }

    private static void rotaAndGathering() {
        MagpieAccounts x = edge(0, "(0 .. 999; 0: on the DAY as it is now; beyond 9999, too; gone as now)");
        x.bird(2, 0, 1);
        x.bird(2, 1, 1);
        x.bird(1, 0, 1);
        x.thin(2);
        due(1, x.rota(0));
        due(2, x.rota(1));
        due(2, x.rota(999));
        due(NONE, x.rota(1000));
        due(NONE, x.rota(-1));
        passDays(x, 9999);
        due(2, x.rota(0));
        due(1, x.rota(1));
        due(1, x.rota(999));

        x = edge(0, "GATHERING: the first DAY, from the DAY as it is now on (it, too; beyond 9999, too)");
        x.bird(4, 0, 1);
        x.bird(6, 0, 1);
        due(0, x.gather());
        x.day(1);
        due(12, x.gather());
        x.day(11);
        due(12, x.gather());
        x.day(1);
        due(24, x.gather());
        passDays(x, 9999 - 13);
        // 9996 is the latest by 12 that isn't beyond.
        due(10008, x.gather());
        // DAYS by 12 that leave 2 by 5, then 3: 12 and 48.
        x = begin("GATHERING of PERIODS that share a number");
        x.bird(4, 0, 1);
        x.bird(6, 0, 1);
        x.bird(5, 2, 1);
        due(12, x.gather());
        x.thin(2);
        x.bird(5, 3, 1);
        due(48, x.gather());
        x = begin("GATHERING far away");
        x.bird(5, 0, 1);
        x.bird(7, 0, 1);
        x.bird(8, 0, 1);
        x.bird(9, 0, 1);
        x.bird(11, 0, 1);
        due(0, x.gather());
        x.day(1);
        due(27720, x.gather());

        x = edge(0, "none (never, or there are none)");
        due(NONE, x.gather());
        x.bird(2, 0, 10);
        x.bird(4, 1, 10);
        due(NONE, x.gather());
        x.thin(1);
        due(0, x.gather());
        x.thin(0);
        due(NONE, x.gather());
        x = begin("GATHERING never, by the first two");
        x.bird(2, 0, 1);
        x.bird(2, 1, 1);
        x.bird(3, 0, 1);
        due(NONE, x.gather());
        x = begin("GATHERING never, by three");
        x.bird(4, 1, 1);
        x.bird(6, 3, 1);
        x.bird(9, 4, 1);
        due(NONE, x.gather());
    }

    private static void comes() {
        MagpieAccounts x = edge(0, "(0 .. 60; 0: on the DAY as it is now)");
        x.bird(1, 0, 10);
        due(0, x.comes(1));
        due(NONE, x.comes(0));
        x = begin("COMES behind 60 days, not behind 61");
        // DAY 60 leaves 4 by 8 and 6 by 9; DAY 61 leaves 5 and 7.
        x.bird(8, 4, 1);
        x.bird(9, 6, 1);
        due(60, x.comes(2));
        x = begin("COMES behind 61 days");
        x.bird(8, 5, 1);
        x.bird(9, 7, 1);
        due(NONE, x.comes(2));
        x.day(1);
        due(60, x.comes(2));

        x = edge(0, "(chances and gone as now: all DUE of chance 10 do, of chance 0 don't); none");
        x.bird(1, 0, 10);
        x.bird(1, 0, 0);
        x.bird(1, 0, 1);
        x.bird(2, 1, 9);
        due(NONE, x.comes(0));
        due(0, x.comes(1));
        due(0, x.comes(2));
        due(1, x.comes(3));
        due(NONE, x.comes(4));
        x.thin(0);
        due(0, x.comes(0));
        due(NONE, x.comes(3));
        // The chance as now: that of DAY 0 on every DAY.
        x = begin("COMES by a chance that would change");
        x.by(tell(x, "chance day*10;"));
        x.bird(1, 0, 5);
        due(NONE, x.comes(1));
        x.day(1);
        due(0, x.comes(1));
        due(NONE, x.comes(0));
        x = begin("COMES with eight");
        birds(x, 8, 9);
        due(0, x.comes(8));
        due(0, x.comes(0));
    }

    private static void follows() {
        MagpieAccounts x = edge(0, "behind each COUNT 0 .. 8 the next one (at first the same)");
        for (int count = 0; count <= 8; count++) due(count, x.after(count, 1));
        x.follows(0, 8);
        x.follows(8, 0);
        due(8, x.after(0, 1));
        due(0, x.after(8, 1));

        x = edge(0, "AFTER n of them");
        for (int count = 0; count < 8; count++) x.follows(count, count + 1);
        due(0, x.after(0, 0));
        due(8, x.after(0, 8));
        due(8, x.after(0, 9));
        due(8, x.after(0, 1000000));
        x.follows(8, 7);
        due(7, x.after(0, 9));
        due(8, x.after(0, 1000000));
        due(7, x.after(0, 999999));
        // 1, 2 is one ring, 6, 7, 8 another: 5 comes to that.
        x = begin("AFTER with two rings");
        x.follows(1, 2);
        x.follows(2, 1);
        for (int count = 5; count < 8; count++) x.follows(count, count + 1);
        x.follows(8, 6);
        due(6, x.after(5, 1000000));
        due(8, x.after(5, 999999));
        due(1, x.after(1, 1000000));
        due(7, x.after(7, 999999));

        x = edge(0, "AGREEING: COUNTS that follow themselves");
        due(511, x.agree());
        for (int count = 0; count <= 8; count++) x.follows(count, (count + 1) % 9);
        due(0, x.agree());
        x.follows(0, 0);
        x.follows(8, 8);
        due(257, x.agree());

        x = edge(0, "TILL: behind how many a COUNT is first in a ring (one that comes to itself again)");
        due(0, x.till(0));
        for (int count = 0; count < 8; count++) x.follows(count, count + 1);
        due(8, x.till(0));
        due(1, x.till(7));
        due(0, x.till(8));
        x.follows(8, 0);
        due(0, x.till(0));
        due(0, x.till(8));
        x.follows(8, 1);
        due(1, x.till(0));
        due(0, x.till(1));

        x = edge(0, "THE SMALLEST RING: of like ones that with the lowest COUNT");
        due(1, x.ring(true));
        due(0, x.ring(false));
        for (int count = 0; count <= 8; count++) x.follows(count, (count + 1) % 9);
        due(9, x.ring(true));
        due(0, x.ring(false));
        x.follows(8, 1);
        due(8, x.ring(true));
        due(1, x.ring(false));
        // 2, 3 and 5, 6: two of size 2.
        x.follows(3, 2);
        x.follows(6, 5);
        due(2, x.ring(true));
        due(2, x.ring(false));
        x.follows(8, 8);
        due(1, x.ring(true));
        due(8, x.ring(false));
    }

    // ---- IV

    private static void tests() {
        MagpieAccounts x = edge(0, "how likely k or more are, in lowest terms");
        due(1, x.test(0, 0, 0, false));
        due(1, x.test(0, 0, 0, true));
        due(1, x.test(12, 0, 0, false));
        due(0, x.test(12, 12, 0, false));
        due(1, x.test(12, 12, 0, true));
        due(1, x.test(12, 12, 10, false));
        due(1, x.test(12, 12, 10, true));
        due(1, x.test(12, 12, 1, false));
        due(1000000000000L, x.test(12, 12, 1, true));
        due(717570463519L, x.test(12, 1, 1, false));
        due(1, x.test(12, 12, 5, false));
        due(4096, x.test(12, 12, 5, true));
        due(4095, x.test(12, 1, 5, false));

        x = edge(0, "A BOUND: the least k (0 .. n) for which that is 1 of 20 or less; none");
        due(1, x.bound(1, 0));
        due(NONE, x.bound(1, 1));
        // 1 of 25 is less than 1 of 20, 9 of 100 isn't.
        due(2, x.bound(2, 2));
        due(NONE, x.bound(2, 3));
        // 1 of 32 and 1 of 16.
        due(5, x.bound(5, 5));
        due(NONE, x.bound(4, 5));
        due(1, x.bound(12, 0));
        due(12, x.bound(12, 7));
        due(NONE, x.bound(12, 8));
        due(NONE, x.bound(12, 10));
        // A little less than 1 of 20 is 6 or more of 8 by 4, a little more 5 or more of 11 by 2.
        due(6, x.bound(8, 4));
        due(6, x.bound(11, 2));

        x = edge(0, "the odds really being others (no BOUND: none)");
        due(1, x.sure(1, 0, 10, false));
        due(1, x.sure(1, 0, 10, true));
        due(0, x.sure(1, 0, 0, false));
        due(1, x.sure(1, 0, 0, true));
        due(-1, x.sure(1, 1, 10, false));
        due(-1, x.sure(12, 8, 10, true));
        due(1, x.sure(5, 5, 5, false));
        due(32, x.sure(5, 5, 5, true));
    }

    private static void seats() {
        MagpieAccounts x = edge(0, "(told; at first 0; there are some, if any is above 0)");
        due(NONE, x.seats(0, 1, false));
        for (int cause = 0; cause < 4; cause++) due(0, x.points(cause));
        x.votes(4, 1);
        due(0, x.seats(0, 1, false));
        due(1, x.seats(4, 1, false));
        x.votes(4, 0);
        due(NONE, x.seats(4, 1, false));

        x = edge(0, "(as a fraction, not cut) are most (of like ones the lowest)");
        // 5 by 2 is 2 and a half, more than 2.
        x.votes(0, 2);
        x.votes(1, 5);
        due(2, x.seats(1, 2, false));
        due(0, x.seats(0, 2, false));
        // Third: 5 by 3 is less than 2.
        due(1, x.seats(0, 3, false));
        x.votes(0, 4);
        x.votes(1, 2);
        // 4 by 2 is as much as 2: the lowest first.
        due(2, x.seats(0, 2, false));
        due(1, x.seats(1, 3, false));
        x.votes(0, 2);
        x.votes(1, 4);
        due(1, x.seats(0, 2, false));
        due(1, x.seats(1, 2, false));
        x = begin("SEATS of like PARISHES");
        for (int parish = 0; parish < 5; parish++) x.votes(parish, 999);
        for (int parish = 0; parish < 5; parish++) {
            due(6, x.seats(parish, 30, false));
            due(6, x.seats(parish, 30, true));
            due(parish < 3 ? 1 : 0, x.seats(parish, 3, false));
            due(parish < 3 ? 1 : 0, x.seats(parish, 3, true));
            due(0, x.seats(parish, 0, false));
            due(0, x.seats(parish, 0, true));
        }

        x = edge(0, "each has VOTES by SEATS by all VOTES, cut, the others one each to those with the greatest rest (of like ones the lowest)");
        // Of 10: 3.3, 3.3, 3.4.
        x.votes(0, 33);
        x.votes(1, 33);
        x.votes(2, 34);
        due(3, x.seats(0, 10, true));
        due(3, x.seats(1, 10, true));
        due(4, x.seats(2, 10, true));
        x.votes(0, 1);
        x.votes(1, 1);
        x.votes(2, 2);
        // Of 2: a half, a half, 1: the lowest of both halves.
        due(1, x.seats(0, 2, true));
        due(0, x.seats(1, 2, true));
        due(1, x.seats(2, 2, true));
        // Nothing is left over.
        due(1, x.seats(0, 4, true));
        due(1, x.seats(1, 4, true));
        due(2, x.seats(2, 4, true));
        x = begin("the last PARISH has the greatest rest");
        x.votes(0, 12);
        x.votes(4, 18);
        due(0, x.seats(0, 1, true));
        due(1, x.seats(4, 1, true));
        x = begin("four are left over");
        x.votes(0, 999);
        for (int parish = 1; parish < 5; parish++) x.votes(parish, 998);
        // Of 9: each 1.8 or so, four of them 1 more.
        due(2, x.seats(0, 9, true));
        due(2, x.seats(3, 9, true));
        due(1, x.seats(4, 9, true));

        x = edge(0, "UNLIKE: PARISHES that have other numbers by both");
        x.votes(0, 1);
        due(0, x.unlike(30));
        due(0, x.unlike(0));
        x.votes(0, 53);
        x.votes(1, 24);
        x.votes(2, 23);
        due(3, x.unlike(2));
        x.votes(1, 0);
        x.votes(4, 24);
        due(17, x.unlike(2));
    }

    private static void causes() {
        MagpieAccounts x = edge(0, "(told: of a PARISH the number 0 .. 23 of its row of causes 0 .. 3, best first, among all rows, by the lowest first ones; at first 0)");
        x.votes(4, 1);
        for (int cause = 0; cause < 4; cause++) due(3 - cause, x.points(cause));
        x.ranks(4, 23);
        for (int cause = 0; cause < 4; cause++) due(cause, x.points(cause));
        // 5 is 0 3 2 1, 6 is 1 0 2 3.
        x.ranks(4, 5);
        due(3, x.points(0));
        due(0, x.points(1));
        x.ranks(4, 6);
        due(2, x.points(0));
        due(3, x.points(1));

        x = edge(0, "are more together than of the others");
        due(false, x.beats(0, 1));
        x.votes(0, 5);
        x.votes(1, 5);
        x.ranks(1, 23);
        due(false, x.beats(0, 1));
        due(false, x.beats(1, 0));
        x.votes(2, 1);
        due(true, x.beats(0, 1));
        due(false, x.beats(1, 0));
        x.votes(4, 2);
        x.ranks(4, 23);
        due(false, x.beats(0, 1));
        due(true, x.beats(1, 0));

        x = edge(0, "THE WINNER BEATS all others; none (without VOTES, too)");
        due(NONE, x.winner());
        x.votes(0, 1);
        due(0, x.winner());
        x.ranks(0, 23);
        due(3, x.winner());
        x.votes(1, 1);
        due(NONE, x.winner());
        // 0 and 1 both BEAT 2 and 3, but not one another: 0 1 2 3 and 1 0 2 3.
        x.ranks(0, 0);
        x.ranks(1, 6);
        due(NONE, x.winner());

        x = edge(0, "POINTS of a cause: VOTES by how many causes are behind it, of all PARISHES together");
        for (int parish = 0; parish < 5; parish++) x.votes(parish, 999);
        due(14985, x.points(0));
        due(0, x.points(3));

        x = edge(0, "(of like ones the highest), till one is left (without VOTES, too)");
        due(0, x.runoff());
        x.ranks(0, 23);
        due(0, x.runoff());
        x.votes(0, 1);
        due(3, x.runoff());
        // 2 and 3 have one PARISH each of 5: 3 goes first, its VOTES go to 2; then 1 of 6, then 0 of 7 by 1's to 0.
        x = begin("of like ones the highest goes");
        x.votes(0, 7);
        x.ranks(0, 0);
        x.votes(1, 6);
        x.ranks(1, 8);
        x.votes(2, 5);
        x.ranks(2, 12);
        x.votes(3, 5);
        x.ranks(3, 22);
        due(2, x.runoff());
        // 3 1 2 0 instead: with 11 to 7 to 5, it is 2 that goes then, to 0: 12 to 11.
        x.ranks(3, 21);
        due(0, x.runoff());
        // A like pair of the last two: the highest goes.
        x = begin("as many VOTES as can be");
        for (int parish = 0; parish < 5; parish++) x.votes(parish, 999);
        due(0, x.runoff());
        x.ranks(0, 23);
        x.ranks(1, 23);
        due(0, x.runoff());
        x.ranks(2, 23);
        due(3, x.runoff());
        x = begin("the last PARISH tells");
        x.votes(0, 4);
        x.votes(4, 5);
        x.ranks(4, 23);
        due(3, x.runoff());
        x = begin("the last two are alike");
        x.votes(0, 4);
        x.votes(1, 4);
        x.ranks(1, 23);
        due(0, x.runoff());
    }

    private static void numbers() {
        MagpieAccounts x = edge(0, "DIGITS: how many a number (0 .. 99) n times by itself (0 .. 50; 0 times: 1, of 0, too) has (0: one, 0)");
        due(1, x.digits(0, 0));
        due(1, x.digit(0, 0, 0));
        due(NONE, x.digit(0, 0, 1));
        due(1, x.digits(99, 0));
        due(1, x.digit(99, 0, 0));
        due(1, x.digits(0, 1));
        due(0, x.digit(0, 1, 0));
        due(1, x.digits(0, 50));
        due(0, x.digit(0, 50, 0));
        due(NONE, x.digit(0, 50, 1));
        due(2, x.digits(99, 1));
        due(100, x.digits(99, 50));
        due(1, x.digits(1, 50));
        due(1, x.digits(3, 2));
        due(2, x.digits(4, 2));
        due(48, x.digits(9, 50));

        x = edge(0, "A DIGIT: the i-th, from the highest on");
        String high = "6050060671375366504479199680125555354571111154849793880846497346573918278439742113929535410412245001";
        for (int i = 0; i < 100; i++) due(high.charAt(i) - '0', x.digit(99, 50, i));
        due(NONE, x.digit(99, 50, 100));
        due(1, x.digit(10, 50, 0));
        due(0, x.digit(10, 50, 1));
        due(0, x.digit(10, 50, 50));
        due(NONE, x.digit(10, 50, 51));
        // Less than asked just now, so nothing of it may be left.
        due(8, x.digit(2, 3, 0));
        due(NONE, x.digit(2, 3, 1));

        x = edge(0, "DEPTH: a guess; one deeper: two thirds of it, cut");
        int[] thirds = {0, 0, 1, 2, 2, 3, 4};
        for (int guess = 0; guess < thirds.length; guess++) {
            due(guess, x.depth(guess, 0));
            due(thirds[guess], x.depth(guess, 1));
        }
        due(665, x.depth(998, 1));
        due(666, x.depth(999, 1));
        // Cut at each: 5, 3, 2, 1, 0.
        due(1, x.depth(5, 3));
        due(0, x.depth(5, 4));
        due(0, x.depth(999, 99));

        x = edge(0, "AT REST: how deep at first it is the same as one deeper (0 of 0)");
        due(0, x.rests(0));
        due(1, x.rests(1));
        due(2, x.rests(2));
        due(3, x.rests(3));
        due(16, x.rests(999));
    }

    private static void games() {
        MagpieAccounts x = edge(0, "A GAME of n (0: the one who begins loses)");
        due(0, x.game(0));

        x = edge(0, "one takes 1 or more, but not all (of 1, all: it wins)");
        due(1, x.game(1));
        due(0, x.game(2));
        due(0, x.game(3));

        x = edge(0, "then by turns each takes 1 or more, twice as many as was taken ahead at most; who takes the last wins");
        for (int n = 2; n <= 40; n++) due(winsGame(n, n - 1) ? 1 : 0, x.game(n));

        x = edge(0, "TO TAKE of n, so many at most (all, if that is as many): the fewest that wins; none (of 0, too)");
        due(NONE, x.take(0, 1));
        due(NONE, x.take(0, 40));
        due(1, x.take(1, 1));
        due(1, x.take(1, 40));
        due(NONE, x.take(2, 1));
        due(2, x.take(2, 2));
        due(NONE, x.take(34, 33));
        due(34, x.take(34, 34));
        due(34, x.take(34, 40));
        due(1, x.take(40, 40));
        due(NONE, x.take(39, 4));
        due(5, x.take(39, 5));
        for (int n = 1; n <= 40; n++) {
            x = begin("TO TAKE of " + n);
            for (int most = 1; most <= 40; most++) due(fewest(n, most), x.take(n, most));
        }
    }

    private static boolean winsGame(int n, int most) {
        return fewest(n, most) != NONE;
    }

    // The document's own words: of all that can be taken the fewest behind which the other one loses.
    private static final int[][] FEWEST = new int[41][81];

    private static int fewest(int n, int most) {
        int held = Math.min(n, most);
        if (FEWEST[n][held] == 0) {
            FEWEST[n][held] = NONE;
            for (int taken = 1; taken <= held; taken++) {
                if (!winsGame(n - taken, 2 * taken)) {
                    FEWEST[n][held] = taken;
                    break;
                }
            }
        }
        return FEWEST[n][held];
    }

    private static void whose() {
        MagpieAccounts x = edge(0, "WHOSE LAW (TOLD, 8 at most: a COUNT, brings -99 .. 99): TEXTS (bits) by whose brings all are so (as now)");
        due(0, x.whose());
        tell(x, "brings 99;");
        tell(x, "brings -99;");
        tell(x, "brings fund;");
        tell(x, "");
        // Without any TOLD all are so.
        due(15, x.whose());
        for (int i = 1; i <= 7; i++) due(i, x.told(i, 99));
        due(1, x.whose());
        due(8, x.told(8, 98));
        due(0, x.whose());
        due(-2, x.told(0, 0));
        x.told(NONE, 0);
        x.told(0, -99);
        due(2, x.whose());
        x.grant(-99);
        due(6, x.whose());
        x.told(NONE, 0);
        x.told(8, 6);
        due(8, x.whose());

        x = edge(0, "ELDEST: the BIRD that CAME most often (once at least); of like ones the lowest; none");
        due(NONE, x.eldest());
        x.bird(1, 0, 0);
        x.bird(2, 1, 10);
        x.bird(2, 0, 10);
        due(NONE, x.eldest());
        x.day(1);
        due(2, x.eldest());
        x.day(1);
        due(1, x.eldest());
        x.day(1);
        due(2, x.eldest());

        x = edge(0, "BY THE BOOK: how often a THING is written down (0 .. 9)");
        due(0, x.ledger(0));
        x.rhyme(0, 9);
        x.day(1);
        x.rhyme(0, 0);
        x.day(24);
        due(1, x.ledger(9));
        due(24, x.ledger(0));
        x.day(1);
        due(0, x.ledger(9));
        due(25, x.ledger(0));
    }

    // ---- V

    private static void years() {
        MagpieAccounts x = edge(0, "YEARS by a SEED: X is SEED (0 .. 9999) * 2 + 419; n times (1 .. 40): x is X, X anew (as in a draw)");
        due(1, x.years(0, 1));
        due(29908, x.is(1));
        // x is 20417, which leaves 5 by 6.
        due(2, x.years(9999, 1));
        due(2414, x.is(1));
        due(2 + 18, x.years(0, 40));
        due(25139, x.is(1));
        due(NONE, x.years(10000, 1));
        due(NONE, x.years(-1, 1));
        due(NONE, x.years(0, 0));
        due(NONE, x.years(0, 41));
        due(25139, x.is(1));

        // SEED 118: x is 655 (BIRD 5 is CALLED BACK), 210 (3 is THINNED). SEED 130: 679 (1 is called), 16074 (7 is THINNED).
        x = edge(0, "x mod 6: 0 BIRD x / 6 mod 8 is THINNED, if x mod 4 is 2");
        birds(x, 8, 0);
        due(0, x.years(118, 2));
        due(1, x.of(3, 3));
        due(0, x.years(130, 2));
        due(1, x.of(7, 3));
        // SEED 121: x is 661 (6 is called), 4176: by 4 it leaves 0.
        due(0, x.years(121, 2));
        due(0, x.of(0, 3));
        due(255 - 8 - 128, x.due());

        x = edge(0, "1 it is CALLED BACK");
        birds(x, 8, 0);
        for (int bird = 0; bird < 8; bird++) x.thin(bird);
        // SEEDS 1, 4, 7, 10: x is 421, 427, 433, 439: BIRDS 6, 7, 0, 1.
        due(0, x.years(1, 1));
        due(64, x.due());
        due(0, x.years(4, 1));
        due(192, x.due());
        due(0, x.years(7, 1));
        due(193, x.due());
        due(0, x.years(10, 1));
        due(195, x.due());

        // SEED 934: x is 2287 (BIRD 5), 26696 (50 are GRANTED). SEED 73: 565, 2618: by 4 it leaves 2.
        x = edge(0, "2 1 and x / 6 mod 50 is GRANTED, if x mod 4 is 0");
        due(0, x.years(934, 2));
        due(50, x.is(2));
        due(0, x.years(73, 2));
        due(50, x.is(2));

        x = edge(0, "(each if it can be; else nothing)");
        // No BIRD 3 yet: who is told later isn't gone.
        due(0, x.years(118, 2));
        birds(x, 8, 0);
        due(255, x.due());
        due(0, x.years(118, 2));
        due(0, x.years(118, 2));
        due(255 - 8, x.due());
        for (int i = 0; i < 10; i++) x.grant(995);
        due(9950, x.is(2));
        due(0, x.years(934, 2));
        due(9950, x.is(2));
        x.grant(-1);
        due(0, x.years(934, 2));
        due(9999, x.is(2));

        // By 6 x leaves 5 and 4 (419, 29908), then 3 (423).
        x = edge(0, "3, 4, 5 a DAY (if it can pass)");
        due(2, x.years(0, 2));
        due(3, x.years(2, 1));
        passDays(x, 9999 - 3);
        x.bird(1, 0, 10);
        due(9999, x.years(0, 2));
        due(24267, x.is(1));
        due(0, x.of(0, 4));
        due(9998, x.book(24, 0));

        x = edge(0, "It is one STEP: DAY");
        due(18, x.years(0, 40));
        due(1, x.about(3));
        due(0, x.undo());
        due(0, x.is(0));
        due(419, x.is(1));
        due(0, x.book(NONE, 0));
        // x is 421: there is no BIRD to be CALLED BACK, but a STEP it is.
        due(0, x.years(1, 1));
        due(1, x.about(3));
        due(281, x.is(1));
        due(0, x.undo());
        due(419, x.is(1));
    }

    private static void image() {
        MagpieAccounts x = edge(0, "AN IMAGE: all as it is, but the tape and the latest FAULT");
        stir(x);
        tell(x, "day 61;");
        feedAll(x, "day 1;");
        x.image();
        String then = state(x);
        stir(x);
        tell(x, "chance count;");
        feedAll(x, "day 1;day 1;");
        x.back();
        same(then, state(x));
        due(12, x.about(6));
        due(5, x.fault(0));
        due(7, x.fault(1));

        // Every row is full, and each place of it is another one then.
        x = begin("an image of all that is full");
        tell(x, "brings count;");
        fill(x, 0);
        x.image();
        then = full(x);
        due(1, x.habits());
        due(1, x.whose());
        x.morning(NONE, true);
        x.told(NONE, 0);
        fill(x, 1);
        due(0, x.whose());
        due(false, then.equals(full(x)));
        x.back();
        same(then, full(x));

        // The STEPS of the image, too, each of the thirty.
        x = begin("the STEPS of an image");
        x.day(40);
        x.image();
        x.day(60);
        x.back();
        for (int day = 39; day >= 10; day--) {
            x.undo();
            due(day, x.is(0));
        }
        due(NONE, x.undo());

        x = edge(0, "BACK: all is so again");
        stir(x);
        then = state(x);
        x.image();
        for (int i = 0; i < 2; i++) {
            stir(x);
            x.back();
            same(then, state(x));
        }
    }

    private static void fill(MagpieAccounts x, int more) {
        for (int i = 0; i < 8; i++) x.bird(1, 0, 10);
        for (int count = 0; count < 9; count++) {
            x.rhyme(count, count / 2 + more);
            x.follows(count, (count * 2 + more) % 9);
        }
        for (int parish = 0; parish < 5; parish++) {
            x.votes(parish, 100 + parish + more * 50);
            x.ranks(parish, parish * 4 + more);
        }
        for (int i = 0; i < 12; i++) x.morning(i, i == 11 - more * 11);
        for (int i = 0; i < 8; i++) x.told(i + more, i + more * 2);
        x.day(40 + more);
        for (int bird = 0; bird < 8; bird++) {
            if (bird % 2 == more) x.thin(bird);
        }
    }

    // What fill changes, each place of each row; what can't be asked by itself is asked by what it does.
    private static String full(MagpieAccounts x) {
        StringJoiner out = new StringJoiner(" ");
        for (int bird = 0; bird < 8; bird++) out.add("came=" + x.of(bird, 4)).add("gone=" + x.of(bird, 3));
        for (int count = 0; count < 9; count++) out.add("thing=" + x.things(count)).add("next=" + x.after(count, 1));
        for (int parish = 0; parish < 5; parish++) out.add("seats=" + x.seats(parish, 29, false));
        for (int cause = 0; cause < 4; cause++) out.add("points=" + x.points(cause));
        out.add("pages=" + x.book(0, 0) + ".." + x.book(24, 0)).add("fits=" + x.habits()).add("whose=" + x.whose());
        return out.add("fund=" + x.is(2)).add("day=" + x.is(0)).toString();
    }

    private static void constants() {
        MagpieAccounts x = edge(0, "The constants: `NONE = -1`: None");
        due(-1, MagpieAccounts.NONE);
        due(0, x.morning(-1, true));
        due(true, x.by(-1));
    }

    // "An object is used for at most 512 calls": the last of them is answered as well as the first.
    private static void manyCalls() {
        MagpieAccounts x = begin("512 calls");
        for (int i = 0; i < 255; i++) {
            x.grant(3);
            x.grant(-2);
        }
        x.undo();
        due(257, x.is(2));
    }
}
