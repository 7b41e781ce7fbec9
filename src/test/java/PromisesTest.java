/** Each of the 61 promises by hand: ordinary inputs, the edges that the document names, and wrong inputs. */
public final class PromisesTest extends Rows {
    private static MagpieAccounts promise(int number) {
        return begin("promise " + number);
    }

    public static void main(String[] args) {
        newObject();
        birds();
        rhymes();
        tapes();
        texts();
        faults();
        sums();
        asks();
        ruling();
        thinning();
        granting();
        days();
        lastDays();
        playing();
        years();
        undoing();
        ofBirds();
        isAndThings();
        bookAndLedger();
        foretelling();
        likelihoods();
        bestThinned();
        mornings();
        rotaAndGathering();
        coming();
        following();
        tests();
        seats();
        causes();
        numbers();
        games();
        whoseLaw();
        eldestAndDue();
        images();
        about();
        finish("all promises hold");
    }

    private static void newObject() {
        MagpieAccounts x = promise(1);
        due(0, x.about(0));
        due(0, x.about(1));
        due(NONE, x.about(2));
        due(0, x.about(3));
        due(0, x.about(4));
        due(0, x.about(5));
        due(0, x.about(6));
        due(0, x.is(0));
        due(419, x.is(1));
        due(0, x.is(2));
        due(0, x.is(3));
        due(0, x.is(4));
        due(0, x.book(NONE, 0));
        x.bird(1, 0, 10);
        x.day(3);
        x.rhyme(4, 9);
        due(0, x.back());
        due(0, x.about(0));
        due(0, x.about(3));
        due(4, x.things(4));
        due(0, x.book(NONE, 0));
    }

    private static void birds() {
        MagpieAccounts x = promise(2);
        due(NONE, x.bird(0, 0, 5));
        due(NONE, x.bird(13, 0, 5));
        due(NONE, x.bird(-1, -2, 5));
        due(NONE, x.bird(3, 3, 5));
        due(NONE, x.bird(3, -1, 5));
        due(NONE, x.bird(3, 0, -1));
        due(NONE, x.bird(3, 0, 11));
        due(NONE, x.bird(LEAST, MOST, LEAST));
        due(0, x.about(0));
        due(0, x.bird(12, 11, 10));
        due(1, x.bird(1, 0, 0));
        for (int i = 2; i < 8; i++) due(i, x.bird(2, 1, 5));
        due(NONE, x.bird(1, 0, 0));
        due(8, x.about(0));
    }

    private static void rhymes() {
        MagpieAccounts x = promise(3);
        due(true, x.rhyme(0, 9));
        due(true, x.rhyme(8, 0));
        due(9, x.things(0));
        due(0, x.things(8));
        due(1, x.things(1));
        due(false, x.rhyme(-1, 0));
        due(false, x.rhyme(9, 0));
        due(false, x.rhyme(0, -1));
        due(false, x.rhyme(0, 10));
        due(9, x.things(0));
    }

    private static void tapes() {
        MagpieAccounts x = promise(4);
        for (int i = 1; i <= 15; i++) due(20 * i, x.feed(0, 0, 0, 0, 0));
        due(NONE, x.feed(1, 2, 3, 4, 5));
        due(300, x.about(6));
        due(281, x.end(281));
        due(NONE, x.feed(0, 0, 0, 0, 0));
        due(281, x.about(6));
        due(280, x.end(280));
        due(300, x.feed(0, 0, 0, 0, 0));
        x.end(0);
        // "gran" "t 12" "3;da" "y 60" ";;;;"
        x.feed(0x6772616e, 0x74203132, 0x333b6461, 0x79203630, 0x3b3b3b3b);
        x.end(17);
        due(0, x.text());
        due(NONE, x.played(0));
        due(123 - 120, x.is(2));
        due(60, x.is(0));
        // Four TEXTS as long as can be
        for (int text = 0; text < 4; text++) {
            MagpieAccounts y = new MagpieAccounts();
            for (int i = 0; i <= text; i++) due(i, tell(y, "brings " + (i + 1) + times(145, "+0") + "; "));
            due(true, y.by(text));
            due(text + 1, y.brings(0));
        }
        due(2, ruled("brings " + times(8, "-") + "1" + times(140, "+0") + "+1;").brings(0));
        // A byte above 127 is no TOKEN, and its place is told.
        x.feed(0x20ff2020, 0, 0, 0, 0);
        due(NONE, x.text());
        due(1, x.fault(0));
        due(1, x.fault(1));

        x = promise(5);
        due(0, x.end(0));
        due(NONE, x.end(1));
        due(NONE, x.end(-1));
        due(NONE, x.end(LEAST));
        due(NONE, x.end(MOST));
        feedAll(x, "day 7;!!");
        due(8, x.about(6));
        due(NONE, x.end(9));
        due(8, x.about(6));
        due(8, x.end(8));
        due(6, x.end(6));
        due(6, x.about(6));
        due(0, x.text());
    }

    private static void texts() {
        MagpieAccounts x = promise(6);
        due(0, x.text());
        due(1, tell(x, "chance 1;"));
        due(0, x.about(6));
        due(NONE, tell(x, "chance"));
        due(0, x.about(6));
        due(2, x.about(1));
        due(2, tell(x, "brings count;"));
        due(3, tell(x, " \n day\n1 ; "));
        due(NONE, tell(x, "day 1;"));
        due(6, x.about(6));
        due(0, x.fault(0));
        due(NONE, tell(x, "?"));
        due(1, x.about(6));
        due(0, x.fault(0));
        due(4, x.about(1));
    }

    private static void faults() {
        MagpieAccounts x = promise(7);
        due(NONE, x.fault(0));
        due(NONE, x.fault(1));
        x.text();
        due(0, x.fault(0));
        due(NONE, x.fault(1));
        tell(x, "day 61;");
        due(2, x.fault(0));
        due(4, x.fault(1));
        due(NONE, x.fault(2));
        due(NONE, x.fault(-1));
        due(NONE, x.fault(MOST));
        x.back();
        due(2, x.fault(0));
        tell(x, "day 1;");
        due(0, x.fault(0));
        due(NONE, x.fault(1));
        // What lies behind the tape's end is not read.
        feedAll(x, "day 1;");
        x.end(2);
        x.text();
        due(1, x.fault(0));
        due(0, x.fault(1));
        feedAll(x, "thin 77;");
        x.end(6);
        x.text();
        due(1, x.fault(0));
        due(6, x.fault(1));
        // 1: it can't stand there, or is none
        faulty(0, NONE, "");
        faulty(1, 0, ";");
        faulty(1, 0, "Day 1;");
        faulty(1, 0, "days 1;");
        faulty(1, 0, "da 1;");
        faulty(1, 2, "  dayday 1;");
        faulty(1, 5, "day 1");
        faulty(1, 7, "day 1\n ");
        faulty(1, 6, "chance\t1;");
        faulty(1, 8, "chance 1!;");
        faulty(1, 9, "chance 1 10000;");
        faulty(1, 9, "chance 1 count;");
        faulty(1, 9, "chance 1 (2);");
        faulty(1, 8, "chance 1<2;");
        faulty(1, 12, "chance if (1<2) then 1 else 2 end;");
        faulty(1, 13, "chance if 1<2<3 then 1 else 2 end;");
        faulty(1, 12, "chance if 1=<2 then 1 else 2 end;");
        faulty(1, 12, "chance if 1<>2 then 1 else 2 end;");
        faulty(1, 21, "chance if 1<2 then 1 end;");
        faulty(1, 27, "chance if 1<2 then 1 else 2;");
        faulty(1, 7, "chance ;");
        faulty(1, 7, "chance then;");
        faulty(1, 7, "chance not 1=1;");
        faulty(1, 6, "grant -5;");
        faulty(1, 8, "bird 12 odd 3;");
        faulty(1, 7, "bird 12;");
        faulty(1, 5, "bird odds 5;");
        faulty(1, 12, "bird 1 odds ;");
        faulty(1, 4, "day ;");
        faulty(1, 4, "day count;");
        faulty(1, 12, "chance if 1 then 2 else 3 end;");
        faulty(1, 13, "chance if 1= then 2 else 3 end;");
        faulty(1, 17, "chance if 1=1 or then 2 else 3 end;");
        faulty(1, 18, "chance if 1=1 and or 2=2 then 2 else 3 end;");
        faulty(1, 7, "rhyme 1+1;");
        faulty(1, 6, "day 1 2;");
        faulty(1, 9, "chance (1;");
        faulty(1, 8, "chance 1);");
        // 2: NUMBERS
        faulty(0, NONE, "chance 9999;");
        faulty(0, NONE, "chance 00009999;");
        faulty(2, 7, "chance 10000;");
        faulty(2, 7, "chance 99999999999999999999;");
        faulty(0, NONE, "bird12odds10;bird 1 odds 0;rhyme8by9;rhyme 0 by 0;thin7;thin 0;call 7;call 0;grant 1;grant 999;day 1;day 60;");
        faulty(2, 5, "bird 0 odds 11;");
        faulty(2, 5, "bird 13 odds 1;");
        faulty(2, 12, "bird 1 odds 11;");
        faulty(2, 6, "rhyme 9 by 1;");
        faulty(2, 11, "rhyme 8 by 10;");
        faulty(2, 5, "thin 8;");
        faulty(2, 5, "call 8;");
        faulty(2, 6, "grant 0;");
        faulty(2, 6, "grant 1000;");
        faulty(2, 4, "day 0;");
        faulty(2, 4, "day 4294967297;");
        // 3: the 9th that is open
        faulty(0, NONE, "chance ((((((((1))))))));");
        faulty(3, 15, "chance (((((((((1)))))))));");
        faulty(0, NONE, "chance --------1;");
        faulty(3, 15, "chance ---------1;");
        faulty(0, NONE, "chance (1)-((((((((1))))))))-1;");
        faulty(0, NONE, "brings rhyme rhyme rhyme rhyme rhyme rhyme rhyme rhyme 1;");
        faulty(3, 55, "brings rhyme rhyme rhyme rhyme rhyme rhyme rhyme rhyme came 1;");
        faulty(0, NONE, "chance if not not not not not not not 1=1 then 1 else 2 end;");
        faulty(3, 38, "chance if not not not not not not not not 1=1 then 1 else 2 end;");
        faulty(3, 38, "chance if not not not not not not not -1=1 then 1 else 2 end;");
        faulty(3, 15, "chance ((((((((if 1=1 then 1 else 2 end))))))));");
        faulty(3, 25, "chance (((((((if 1=1 then(1)else 2 end)))))));");
        faulty(3, 32, "chance (((((((if 1=1 then 1 else(2)end)))))));");
        // 4: laws once each
        faulty(4, 9, "chance 1;chance 1;");
        faulty(4, 18, "brings 1;chance 1;brings 1;");
        faulty(4, 147, "chance 1;" + times(23, "day 1;") + "chance 1;");
        // 5: NAMES of the other law
        faulty(0, NONE, "chance day+fund+last+gone+number+odds+period;brings day+fund+last+gone+count+thing;");
        faulty(5, 7, "chance count;");
        faulty(5, 7, "chance thing;");
        faulty(5, 7, "brings number;");
        faulty(5, 7, "brings odds;");
        faulty(5, 7, "brings period;");
        // 6: the 25th CLAUSE
        faulty(0, NONE, times(24, "day 1;"));
        faulty(6, 144, times(24, "day 1;") + "brings 1;");
        faulty(6, 144, times(25, "day 1;"));
        faulty(1, 144, times(24, "day 1;") + "?");
    }

    private static void sums() {
        promise(19);
        brings(14, "2+3*4");
        brings(20, "(2+3)*4");
        brings(-5, "2-3-4");
        brings(7, "100/7/2");
        brings(28, "100/7*2");
        brings(3, "7/2");
        brings(-3, "-7/2");
        brings(-3, "7/-2");
        brings(3, "-7/-2");
        brings(0, "5/0");
        brings(4, "4+5/(1-1)*9");
        brings(99, "100");
        brings(99, "99");
        brings(-99, "-99");
        brings(-99, "-100");
        // What is above 1000000 is that, at each step.
        brings(1, "9999*9999/9999/100");
        brings(0, "9999*9999*9999-1000*1000");
        brings(0, "9999*9999*-9999+1000*1000");
        brings(-1, "1000*1000+1-1-1000*999-1000");
        brings(1, "-(1000*1000)-1+1+1000*1000");
        // rhyme and came of others are 0.
        MagpieAccounts x = ruled("brings rhyme count*10+rhyme 9+rhyme -1+rhyme(8+1);");
        x.rhyme(8, 9);
        due(90, x.brings(8));
        due(30, x.brings(3));
        x = ruled("brings came 0*10+came 1+came 7+came -1+came 8;");
        x.bird(1, 0, 10);
        x.bird(2, 0, 10);
        due(0, x.brings(0));
        x.day(3);
        due(32, x.brings(0));
        x.thin(0);
        due(32, x.brings(0));
        x = ruled("brings day*10+fund;");
        x.grant(7);
        due(7, x.brings(0));
        x.day(1);
        due(10 + 14, x.brings(5));
        x = ruled("brings last*10+gone;");
        x.bird(1, 0, 10);
        x.bird(1, 0, 10);
        x.bird(5, 4, 10);
        x.thin(2);
        due(1, x.brings(0));
        x.day(1);
        due(21, x.brings(0));
        x = ruled("brings count*10+thing;");
        due(33, x.brings(3));
        x.rhyme(3, 8);
        due(38, x.brings(3));
        due(NONE, tell(x, "brings rhyme;"));
        // without: THING less 2
        x = ruled("chance 3;");
        x.rhyme(4, 9);
        due(7, x.brings(4));
        due(-2, x.brings(0));
        due(6, x.brings(8));
        due(-1000, x.brings(9));
        due(-1000, x.brings(-1));
        due(-1000, x.brings(LEAST));
    }

    private static void asks() {
        promise(19);
        brings(1, "if 1<2 then 1 else 2 end");
        brings(2, "if 2<2 then 1 else 2 end");
        brings(1, "if 2<=2 then 1 else 2 end");
        brings(2, "if 3<=2 then 1 else 2 end");
        brings(1, "if 3>2 then 1 else 2 end");
        brings(2, "if 2>2 then 1 else 2 end");
        brings(1, "if 2>=2 then 1 else 2 end");
        brings(2, "if 1>=2 then 1 else 2 end");
        brings(1, "if 2=2 then 1 else 2 end");
        brings(2, "if 1=2 then 1 else 2 end");
        brings(1, "if 1#2 then 1 else 2 end");
        brings(2, "if 2#2 then 1 else 2 end");
        // and goes ahead of or, not goes ahead of and
        brings(1, "if 1=1 or 1=1 and 1=2 then 1 else 2 end");
        brings(2, "if 1=2 and 1=1 or 1=2 then 1 else 2 end");
        brings(1, "if 1=2 and 1=2 or 1=1 then 1 else 2 end");
        brings(2, "if not 1=1 and 1=2 then 1 else 2 end");
        brings(1, "if not 1=2 then 1 else 2 end");
        brings(2, "if not 1=1 then 1 else 2 end");
        brings(1, "if not 2=2 or not 2=1 and not 1=2 then 1 else 2 end");
        brings(1, "if not not 1=1 then 1 else 2 end");
        brings(1, "if not 1=1 or 1=1 then 1 else 2 end");
        brings(12, "if 1=1 then 3 else 5/0 end*4");
        brings(4, "if if 1=1 then 2 else 3 end=2 then if 1=2 then 3 else 4 end else 5 end");
        brings(-6, "1-if 1=1 then 3+4 else 9 end");
    }

    private static void ruling() {
        MagpieAccounts x = promise(8);
        due(true, x.by(NONE));
        due(false, x.by(0));
        tell(x, "chance 7;");
        tell(x, "chance 8;");
        x.bird(1, 0, 1);
        due(1, x.of(0, 5));
        due(true, x.by(1));
        due(1, x.about(2));
        due(8, x.of(0, 5));
        due(false, x.by(2));
        due(false, x.by(-2));
        due(8, x.of(0, 5));
        due(true, x.by(NONE));
        due(1, x.of(0, 5));
    }

    private static void thinning() {
        MagpieAccounts x = promise(9);
        due(false, x.thin(0));
        x.bird(1, 0, 10);
        x.bird(1, 0, 10);
        due(true, x.thin(1));
        due(false, x.thin(1));
        due(1, x.of(1, 3));
        due(0, x.of(0, 3));
        due(1, x.about(3));
        due(1, x.day(1));
        due(false, x.thin(2));
        due(false, x.thin(-1));
        due(false, x.thin(32));
        due(false, x.thin(MOST));

        x = promise(10);
        due(false, x.call(0));
        x.bird(1, 0, 10);
        x.bird(1, 0, 10);
        due(false, x.call(1));
        x.thin(1);
        due(false, x.call(0));
        due(true, x.call(1));
        due(0, x.of(1, 3));
        due(2, x.about(3));
        due(2, x.day(1));
        due(false, x.call(-1));
        due(false, x.call(2));
        due(false, x.call(LEAST));
    }

    private static void granting() {
        MagpieAccounts x = promise(11);
        due(false, x.grant(0));
        due(false, x.grant(1000));
        due(false, x.grant(-1000));
        due(false, x.grant(MOST));
        due(false, x.grant(LEAST));
        due(0, x.about(3));
        due(true, x.grant(-999));
        due(-999, x.is(2));
        for (int i = 0; i < 9; i++) due(true, x.grant(-999));
        due(-9990, x.is(2));
        due(false, x.grant(-10));
        due(true, x.grant(-9));
        due(-9999, x.is(2));
        due(false, x.grant(-1));
        for (int i = 0; i < 20; i++) due(true, x.grant(999));
        due(9981, x.is(2));
        due(false, x.grant(19));
        due(true, x.grant(18));
        due(9999, x.is(2));
        due(false, x.grant(1));
        due(30, x.about(3));
    }

    private static void days() {
        MagpieAccounts x = promise(12);
        due(NONE, x.day(0));
        due(NONE, x.day(61));
        due(NONE, x.day(-1));
        due(NONE, x.day(MOST));
        x.bird(1, 0, 10);
        x.bird(2, 1, 10);
        x.bird(3, 0, 0);
        due(6, x.day(4));
        due(4, x.of(0, 4));
        due(2, x.of(1, 4));
        due(0, x.of(2, 4));
        due(4, x.about(3));
        due(60 + 30, x.day(60));
        due(64, x.is(0));
        // Each BIRD that is DUE draws by the X as it is: 9, 8, 7, 6, 8, 3, 5 are the first draws.
        x = new MagpieAccounts();
        x.bird(1, 0, 9);
        x.bird(1, 0, 9);
        due(1, x.day(1));
        due(0, x.of(0, 4));
        due(1, x.of(1, 4));
        due(24267, x.is(1));
        // Each chance is as it is then: what came ahead on the same DAY is counted.
        x = ruled("chance if number=0 then 10 else came 0*10 end;brings last*10+came 0;");
        x.bird(1, 0, 0);
        x.bird(1, 0, 0);
        due(2, x.day(1));
        due(1, x.is(2));
        due(2, x.is(3));
        due(2, x.day(1));
        due(1 + 22, x.is(2));
        due(22, x.book(1, 3));
        // THE RHYME is asked as it is on that DAY.
        x = new MagpieAccounts();
        x.bird(1, 0, 10);
        x.rhyme(1, 9);
        x.day(1);
        due(9, x.is(4));
        due(7, x.is(2));
        x.rhyme(1, 5);
        due(9, x.is(4));
        due(9, x.book(0, 2));
    }

    private static void lastDays() {
        MagpieAccounts x = ruled("brings 99;");
        passDays(x, 9960);
        due(9999, x.is(2));
        due(99, x.book(24, 3));
        due(NONE, x.day(40));
        due(9960, x.is(0));
        due(0, x.day(39));
        due(9999, x.is(0));
        due(NONE, x.day(1));
        due(9998, x.book(24, 0));
        due(9999, x.foretold(60, 0));
        x.by(NONE);
        due(9999, x.foretold(1, 0));
        promise(14);
        due(9999, x.years(0, 3));
        promise(13);
        due(1, tell(x, "day 1;"));
        due(0, x.played(1));
        for (int i = 0; i < 5; i++) x.undo();
        due(9995, x.is(0));
        due(2, tell(x, "grant 1;day 7;grant 2;"));
        due(0, x.played(2));
        due(true, x.grant(-500));
        due(1, x.played(2));
        due(9999, x.is(0));
        due(9500 - 8, x.is(2));
        promise(29);
        x.bird(10, 0, 10);
        due(0, x.rota(0));
        due(1, x.rota(1));
        due(10000, x.gather());
        due(1, x.comes(1));
        promise(12);
        x = ruled("brings -99;");
        passDays(x, 120);
        due(-9999, x.is(2));
        due(-99, x.book(24, 3));
        x = new MagpieAccounts();
        x.bird(1, 0, 10);
        passDays(x, 9999);
        due(9999, x.of(0, 4));
    }

    private static void playing() {
        MagpieAccounts x = promise(13);
        due(-2, x.played(0));
        due(-2, x.played(-1));
        due(-2, x.played(MOST));
        due(0, tell(x, "bird 1 odds 10;chance 0;thin 0;call 0;brings 5;rhyme 0 by 7;grant 9;day 2;thin 1;grant 100;"));
        due(8, x.played(0));
        due(1, x.about(0));
        due(1, x.of(0, 0));
        due(0, x.of(0, 1));
        due(10, x.of(0, 2));
        due(7, x.things(0));
        due(2, x.is(0));
        due(9 - 2, x.is(2));
        due(5, x.about(3));
        due(NONE, x.about(2));
        due(1, tell(x, ""));
        due(NONE, x.played(1));
        due(2, tell(x, times(9, "bird 2 odds 1;")));
        due(7, x.played(2));
        due(8, x.about(0));
        due(3, tell(x, "call 0;"));
        due(0, x.played(3));
        x.by(0);
        due(0, x.played(0));
    }

    private static void years() {
        MagpieAccounts x = promise(14);
        due(NONE, x.years(-1, 1));
        due(NONE, x.years(10000, 1));
        due(NONE, x.years(0, 0));
        due(NONE, x.years(0, 41));
        due(NONE, x.years(LEAST, MOST));
        due(0, x.about(3));
        // No BIRD 5 is there to be THINNED, nor is the one told later.
        due(3, x.years(0, 5));
        for (int i = 0; i < 8; i++) x.bird(12, 11, 10);
        due(0, x.of(5, 3));
        due(true, x.years(0, 40) > 3);
        x = new MagpieAccounts();
        for (int i = 0; i < 8; i++) x.bird(12, 11, 10);
        x.day(1);
        // x is 419, 29908, 24267 (DAYS), 9446 (no grant: by 4 it leaves 2), 23598 (BIRD 5 is THINNED), 523 (7 is called).
        due(4, x.years(0, 4));
        due(23598, x.is(1));
        due(-8, x.is(2));
        due(2, x.about(3));
        due(4 + 3, x.years(0, 6));
        due(1, x.of(5, 3));
        due(5805, x.is(1));
        due(2, x.undo());
        due(4, x.is(0));
        due(23598, x.is(1));
        due(0, x.of(5, 3));
        x.undo();
        // x is 473 (a DAY), 3704 (18 are GRANTED).
        due(2, x.years(27, 2));
        due(-2 - 2 + 18, x.is(2));
        // x is 655 (BIRD 5 is CALLED BACK), 210 (BIRD 3 is THINNED).
        x.thin(5);
        due(2, x.years(118, 2));
        due(0, x.of(5, 3));
        due(1, x.of(3, 3));
        due(2, x.years(118, 2));
        due(1, x.of(3, 3));
        // x is 477 (a DAY), 6348 (BIRD 2 stays, for by 4 it leaves 0).
        due(3, x.years(29, 2));
        due(0, x.of(2, 3));
        // DAYS in YEARS draw from the same X.
        x = new MagpieAccounts();
        x.bird(1, 0, 9);
        due(1, x.years(0, 1));
        due(24267, x.is(1));
        due(1, x.is(3));
        // The highest SEED: x is 20417 (a DAY), X then (20417 * 661 + 541) mod 30949.
        x = new MagpieAccounts();
        due(1, x.years(9999, 1));
        due(2414, x.is(1));
    }

    private static void undoing() {
        MagpieAccounts x = promise(15);
        due(NONE, x.undo());
        x.bird(1, 0, 10);
        x.thin(0);
        x.call(0);
        x.grant(5);
        x.day(2);
        due(5, x.about(3));
        x.bird(1, 0, 10);
        x.rhyme(1, 9);
        x.thin(1);
        x.day(1);
        due(6, x.undo());
        due(5, x.undo());
        due(0, x.of(1, 3));
        x.day(1);
        due(1, x.of(1, 4));
        due(5, x.undo());
        due(0, x.of(1, 4));
        due(4, x.undo());
        due(1, x.is(0));
        due(4, x.is(2));
        due(1, x.of(0, 4));
        due(29908, x.is(1));
        due(1, x.book(NONE, 0));
        due(3, x.undo());
        due(0, x.is(3));
        due(0, x.book(NONE, 0));
        due(419, x.is(1));
        due(0, x.is(4));
        due(2, x.undo());
        due(0, x.is(2));
        due(1, x.undo());
        due(1, x.of(0, 3));
        due(0, x.undo());
        due(0, x.of(0, 3));
        due(NONE, x.undo());
        due(2, x.about(0));
        due(9, x.things(1));
        // The latest 30; a BIRD told since is not gone and never came, and BOOK is as it was.
        x = new MagpieAccounts();
        x.bird(1, 0, 10);
        x.day(40);
        due(30, x.about(3));
        x.bird(1, 0, 10);
        x.day(1);
        x.thin(1);
        due(30, x.about(3));
        for (int i = 29; i >= 0; i--) due(i, x.undo());
        due(NONE, x.undo());
        due(1, x.is(4));
        due(12, x.is(0));
        due(12, x.of(0, 4));
        due(0, x.of(1, 4));
        due(0, x.of(1, 3));
        due(12, x.book(NONE, 0));
        due(11, x.book(11, 0));
    }

    private static void ofBirds() {
        MagpieAccounts x = promise(16);
        due(NONE, x.of(0, 0));
        x.bird(7, 3, 4);
        due(7, x.of(0, 0));
        due(3, x.of(0, 1));
        due(4, x.of(0, 2));
        due(0, x.of(0, 3));
        due(0, x.of(0, 4));
        due(4, x.of(0, 5));
        due(NONE, x.of(0, 6));
        due(NONE, x.of(0, -1));
        due(NONE, x.of(1, 0));
        due(NONE, x.of(-1, 0));
        x.by(tell(x, "chance period+number*2-odds-day;"));
        due(3, x.of(0, 5));
        x.bird(12, 0, 0);
        due(10, x.of(1, 5));
        x.day(4);
        due(0, x.of(0, 5));
        x.thin(0);
        due(0, x.of(0, 5));
        due(10, x.of(1, 5));
    }

    private static void isAndThings() {
        MagpieAccounts x = promise(17);
        x.bird(1, 0, 10);
        x.rhyme(1, 6);
        x.day(1);
        due(1, x.is(0));
        due(29908, x.is(1));
        due(4, x.is(2));
        due(1, x.is(3));
        due(6, x.is(4));
        due(-100000, x.is(5));
        due(-100000, x.is(-1));

        x = promise(18);
        due(0, x.things(0));
        due(8, x.things(8));
        due(NONE, x.things(9));
        due(NONE, x.things(-1));
        due(NONE, x.things(MOST));
    }

    private static void bookAndLedger() {
        MagpieAccounts x = promise(20);
        due(0, x.book(NONE, 0));
        due(-1000, x.book(0, 0));
        x.bird(2, 1, 10);
        x.rhyme(1, 9);
        x.day(2);
        due(2, x.book(NONE, 0));
        due(0, x.book(0, 0));
        due(0, x.book(0, 1));
        due(0, x.book(0, 2));
        due(-2, x.book(0, 3));
        due(1, x.book(1, 0));
        due(1, x.book(1, 1));
        due(9, x.book(1, 2));
        due(7, x.book(1, 3));
        due(-1000, x.book(1, 4));
        due(-1000, x.book(1, -1));
        due(-1000, x.book(2, 0));
        due(-1000, x.book(-2, 0));
        x.day(24);
        due(25, x.book(NONE, 0));
        due(1, x.book(0, 0));
        due(25, x.book(24, 0));
        due(-1000, x.book(25, 0));

        promise(58);
        due(13, x.ledger(9));
        due(12, x.ledger(0));
        due(0, x.ledger(1));
        due(-2, x.ledger(10));
        due(-2, x.ledger(-1));
    }

    private static void foretelling() {
        MagpieAccounts x = promise(21);
        x.bird(1, 0, 10);
        x.bird(2, 1, 10);
        x.grant(100);
        due(99, x.foretold(1, 0));
        due(1, x.foretold(1, 1));
        due(99, x.foretold(2, 0));
        due(2, x.foretold(2, 1));
        due(100 - 30, x.foretold(60, 0));
        due(-100000, x.foretold(0, 0));
        due(-100000, x.foretold(61, 0));
        due(-100000, x.foretold(1, 2));
        due(-100000, x.foretold(1, -1));
        due(0, x.is(0));
        due(419, x.is(1));
        due(100, x.is(2));
        due(0, x.of(0, 4));
        due(1, x.about(3));
        due(0, x.book(NONE, 0));
    }

    private static void likelihoods() {
        MagpieAccounts x = promise(22);
        due(1, x.likely(0, false));
        due(1, x.likely(0, true));
        due(0, x.likely(8, false));
        due(1, x.likely(8, true));
        due(-1, x.likely(9, false));
        due(-1, x.likely(-1, true));
        x.bird(1, 0, 5);
        x.bird(1, 0, 2);
        x.bird(1, 0, 10);
        x.bird(2, 1, 7);
        due(0, x.likely(0, false));
        due(2, x.likely(1, false));
        due(5, x.likely(1, true));
        due(1, x.likely(2, false));
        due(2, x.likely(2, true));
        due(1, x.likely(3, false));
        due(10, x.likely(3, true));
        x = new MagpieAccounts();
        for (int i = 0; i < 8; i++) x.bird(1, 0, 9);
        due(43046721, x.likely(8, false));
        due(100000000, x.likely(8, true));

        promise(23);
        due(36, x.mean(false));
        due(5, x.mean(true));
        x.thin(0);
        due(63, x.mean(false));
        due(10, x.mean(true));
        x = new MagpieAccounts();
        x.bird(2, 1, 9);
        due(0, x.mean(false));
        due(1, x.mean(true));
        x.bird(1, 0, 7);
        x.bird(1, 0, 8);
        due(3, x.mean(false));
        due(2, x.mean(true));
    }

    private static void bestThinned() {
        MagpieAccounts x = promise(24);
        due(0, x.best(8, false));
        x.bird(1, 0, 10);
        x.bird(1, 0, 10);
        x.bird(1, 0, 10);
        x.bird(2, 1, 10);
        due(0, x.best(3, false));
        due(1, x.best(2, false));
        due(3, x.best(1, false));
        due(2, x.best(1, true));
        due(7, x.best(0, false));
        due(3, x.best(0, true));
        due(0, x.best(4, false));
        due(0, x.best(4, true));
        due(NONE, x.best(9, false));
        due(NONE, x.best(-1, true));
        x = new MagpieAccounts();
        x.bird(1, 0, 0);
        x.bird(1, 0, 10);
        x.bird(1, 0, 4);
        due(4, x.best(1, false));
        due(6, x.best(0, false));
        due(0, x.best(2, false));
    }

    private static void mornings() {
        MagpieAccounts x = promise(25);
        due(-2, x.morning(100, true));
        due(-2, x.morning(-2, true));
        due(1, x.morning(0, true));
        for (int i = 2; i <= 12; i++) due(i, x.morning(99, false));
        due(-2, x.morning(5, true));
        due(12, x.about(4));
        due(0, x.morning(NONE, false));
        due(0, x.about(4));

        x = promise(26);
        due(78, x.habits());
        x.morning(7, true);
        due(12, x.habits());
        x.morning(9, true);
        due(2, x.habits());
        x.morning(9, false);
        due(0, x.habits());
        x.morning(NONE, true);
        x.morning(0, false);
        due(66, x.habits());

        x = promise(27);
        due(1, x.habit(0));
        due(0, x.habit(1));
        due(0, x.habit(2));
        x.morning(99, true);
        x.morning(4, true);
        x.morning(5, false);
        due(5, x.habit(0));
        due(4, x.habit(1));
        due(104, x.habit(2));
        due(NONE, x.habit(3));
        due(NONE, x.habit(-1));
        x.morning(5, true);
        due(NONE, x.habit(0));
        due(NONE, x.habit(1));
        due(NONE, x.habit(2));
        x.morning(NONE, true);
        x.morning(8, false);
        due(2, x.habit(0));
        due(1, x.habit(1));
        due(9, x.habit(2));
        x.morning(NONE, true);
        x.morning(0, true);
        for (int day = 1; day < 12; day++) x.morning(day, false);
        due(12, x.habit(0));
        due(0, x.habit(1));
        due(12, x.habit(2));

        x = promise(28);
        due(0, x.whom());
        x.bird(2, 0, 0);
        x.bird(2, 1, 0);
        x.bird(6, 4, 0);
        due(7, x.whom());
        x.thin(0);
        x.morning(4, true);
        x.morning(7, false);
        due(5, x.whom());
        x.morning(2, true);
        due(1, x.whom());
    }

    private static void rotaAndGathering() {
        MagpieAccounts x = promise(29);
        x.bird(2, 0, 1);
        x.bird(3, 1, 1);
        x.bird(4, 2, 1);
        due(1, x.rota(0));
        due(2, x.rota(1));
        due(5, x.rota(2));
        due(3, x.rota(4));
        due(7, x.rota(10));
        due(0, x.rota(999));
        due(NONE, x.rota(1000));
        due(NONE, x.rota(-1));
        x.day(1);
        due(2, x.rota(0));
        x.thin(0);
        due(4, x.rota(1));

        promise(30);
        due(10, x.gather());
        x.call(0);
        due(10, x.gather());
        passDays(x, 9);
        due(10, x.gather());
        x.day(1);
        due(22, x.gather());
        x.bird(2, 1, 5);
        due(NONE, x.gather());
        x.thin(0);
        x.thin(1);
        x.thin(2);
        due(11, x.gather());
        x.thin(3);
        due(NONE, x.gather());
        x = new MagpieAccounts();
        x.bird(5, 4, 1);
        x.bird(7, 6, 1);
        x.bird(8, 7, 1);
        x.bird(9, 8, 1);
        x.bird(11, 10, 1);
        due(27719, x.gather());
    }

    private static void coming() {
        MagpieAccounts x = promise(31);
        due(0, x.comes(0));
        due(NONE, x.comes(1));
        due(NONE, x.comes(9));
        due(NONE, x.comes(-1));
        x.bird(2, 0, 10);
        x.bird(3, 2, 5);
        x.bird(5, 3, 10);
        x.bird(7, 0, 0);
        due(1, x.comes(0));
        due(0, x.comes(1));
        due(2, x.comes(2));
        due(8, x.comes(3));
        due(NONE, x.comes(4));
        x.day(3);
        due(5, x.comes(3));
        x.thin(2);
        due(NONE, x.comes(3));
        x = new MagpieAccounts();
        x.bird(5, 4, 1);
        x.bird(12, 11, 1);
        due(59, x.comes(2));
        x.bird(11, 5, 1);
        due(NONE, x.comes(3));
        x.day(1);
        // BIRDS 0 and 2 on DAY 49
        due(48, x.comes(2));
        x = new MagpieAccounts();
        x.bird(8, 4, 1);
        x.bird(9, 6, 1);
        due(60, x.comes(2));
        x = new MagpieAccounts();
        x.bird(8, 5, 1);
        x.bird(9, 7, 1);
        due(NONE, x.comes(2));
    }

    private static void following() {
        MagpieAccounts x = promise(32);
        due(false, x.follows(-1, 0));
        due(false, x.follows(9, 0));
        due(false, x.follows(0, -1));
        due(false, x.follows(0, 9));
        due(511, x.agree());
        due(true, x.follows(0, 8));
        due(true, x.follows(8, 1));
        due(true, x.follows(1, 8));

        promise(33);
        due(511 - 1 - 2 - 256, x.agree());

        promise(34);
        due(1, x.ring(true));
        due(2, x.ring(false));
        for (int i = 2; i < 8; i++) x.follows(i, i == 7 ? 5 : i + 1);
        due(2, x.ring(true));
        due(1, x.ring(false));
        due(0, x.agree());
        x.follows(8, 0);
        x.follows(1, 2);
        due(2, x.ring(true));
        due(0, x.ring(false));
        x.follows(8, 1);
        due(3, x.ring(true));
        due(5, x.ring(false));
        MagpieAccounts y = new MagpieAccounts();
        for (int i = 0; i < 9; i++) y.follows(i, (i + 1) % 9);
        due(9, y.ring(true));
        due(0, y.ring(false));
        due(0, y.till(8));
        due(1, y.after(0, 1000000));

        promise(35);
        due(6, x.till(0));
        due(5, x.till(8));
        due(3, x.till(2));
        due(0, x.till(5));
        due(0, x.till(7));
        due(NONE, x.till(9));
        due(NONE, x.till(-1));

        promise(36);
        due(0, x.after(0, 0));
        due(8, x.after(0, 1));
        due(5, x.after(0, 6));
        due(6, x.after(0, 7));
        due(5, x.after(0, 9));
        due(6, x.after(0, 1000000));
        due(5, x.after(0, 999999));
        due(5, x.after(4, 1000000));
        due(7, x.after(3, 1000000));
        due(NONE, x.after(0, 1000001));
        due(NONE, x.after(0, -1));
        due(NONE, x.after(9, 0));
        due(NONE, x.after(-1, 0));
    }

    private static void tests() {
        MagpieAccounts x = promise(37);
        due(3, x.test(2, 1, 5, false));
        due(4, x.test(2, 1, 5, true));
        due(1, x.test(12, 0, 3, false));
        due(282429536481L, x.test(12, 12, 9, false));
        due(1000000000000L, x.test(12, 12, 9, true));
        due(0, x.test(12, 1, 0, false));
        due(1, x.test(12, 1, 0, true));
        due(1, x.test(0, 0, 10, false));
        due(1000, x.test(3, 1, 3, true));
        due(657, x.test(3, 1, 3, false));
        due(-1, x.test(-1, 0, 5, false));
        due(-1, x.test(13, 0, 5, false));
        due(-1, x.test(3, 4, 5, false));
        due(-1, x.test(3, -1, 5, true));
        due(-1, x.test(3, 1, 11, false));
        due(-1, x.test(3, 1, -1, true));

        promise(38);
        due(5, x.bound(5, 5));
        due(NONE, x.bound(4, 5));
        due(9, x.bound(10, 5));
        due(1, x.bound(12, 0));
        due(NONE, x.bound(12, 10));
        due(2, x.bound(3, 1));
        due(NONE, x.bound(0, 0));
        due(NONE, x.bound(13, 5));
        due(NONE, x.bound(5, -1));
        due(NONE, x.bound(5, 11));

        promise(39);
        due(59049, x.sure(5, 5, 9, false));
        due(100000, x.sure(5, 5, 9, true));
        due(0, x.sure(12, 0, 0, false));
        due(1, x.sure(12, 0, 0, true));
        due(-1, x.sure(4, 5, 9, false));
        due(-1, x.sure(4, 5, 9, true));
        due(-1, x.sure(5, 5, 11, false));
        due(-1, x.sure(5, 5, -1, false));
        due(-1, x.sure(0, 5, 5, false));
        due(-1, x.sure(13, 5, 5, false));
        due(-1, x.sure(5, 11, 5, false));
    }

    private static void seats() {
        MagpieAccounts x = promise(40);
        due(NONE, x.seats(0, 1, true));
        due(false, x.votes(-1, 1));
        due(false, x.votes(5, 1));
        due(false, x.votes(0, -1));
        due(false, x.votes(0, 1000));
        due(NONE, x.seats(0, 1, true));
        due(true, x.votes(4, 999));
        due(30, x.seats(4, 30, true));
        due(true, x.votes(4, 0));
        due(NONE, x.seats(4, 30, false));

        x = promise(41);
        x.votes(0, 53);
        x.votes(1, 24);
        x.votes(2, 23);
        int[] nine = {5, 2, 2};
        for (int p = 0; p < 3; p++) {
            due(nine[p], x.seats(p, 9, false));
            due(nine[p], x.seats(p, 9, true));
        }
        due(4, x.seats(0, 7, false));
        due(2, x.seats(1, 7, false));
        due(1, x.seats(2, 7, false));
        due(4, x.seats(0, 7, true));
        due(2, x.seats(1, 7, true));
        due(1, x.seats(2, 7, true));
        due(2, x.seats(0, 2, false));
        due(1, x.seats(0, 2, true));
        due(1, x.seats(1, 2, true));
        due(0, x.seats(0, 0, false));
        due(0, x.seats(0, 0, true));
        due(0, x.seats(4, 30, false));
        due(NONE, x.seats(0, 31, false));
        due(NONE, x.seats(0, -1, true));
        due(NONE, x.seats(5, 1, true));
        due(NONE, x.seats(-1, 1, false));
        // of like ones the lowest
        MagpieAccounts y = new MagpieAccounts();
        for (int p = 0; p < 5; p++) y.votes(p, 10);
        due(1, y.seats(1, 2, false));
        due(0, y.seats(2, 2, false));
        due(1, y.seats(1, 2, true));
        due(0, y.seats(2, 2, true));

        promise(42);
        due(0, x.unlike(9));
        due(3, x.unlike(2));
        due(0, x.unlike(0));
        due(NONE, x.unlike(31));
        due(NONE, x.unlike(-1));
        due(NONE, new MagpieAccounts().unlike(3));
    }

    private static void causes() {
        MagpieAccounts x = promise(43);
        due(false, x.ranks(-1, 0));
        due(false, x.ranks(5, 0));
        due(false, x.ranks(0, -1));
        due(false, x.ranks(0, 24));
        x.votes(0, 1);
        String[] rows = {"0123", "0132", "0213", "0231", "0312", "0321", "1023", "1032", "1203", "1230", "1302", "1320",
            "2013", "2031", "2103", "2130", "2301", "2310", "3012", "3021", "3102", "3120", "3201", "3210"};
        for (int order = 0; order < 24; order++) {
            due(true, x.ranks(0, order));
            for (int place = 0; place < 4; place++) due(3 - place, x.points(rows[order].charAt(place) - '0'));
        }

        x = promise(44);
        due(false, x.beats(0, 1));
        x.votes(0, 3);
        due(true, x.beats(0, 1));
        due(false, x.beats(1, 0));
        due(false, x.beats(1, 1));
        due(false, x.beats(-1, 1));
        due(false, x.beats(0, 4));
        x.votes(4, 3);
        x.ranks(4, 23);
        due(false, x.beats(0, 1));
        due(false, x.beats(1, 0));
        x.votes(4, 4);
        due(true, x.beats(1, 0));

        promise(45);
        due(3, x.winner());
        x.votes(4, 3);
        due(NONE, x.winner());
        // A ring: 0 ahead of 1, 1 ahead of 2, 2 ahead of 0.
        x = new MagpieAccounts();
        due(NONE, x.winner());
        x.votes(0, 1);
        x.votes(1, 1);
        x.votes(2, 1);
        x.ranks(0, 0);
        x.ranks(1, 9);
        x.ranks(2, 12);
        due(true, x.beats(0, 1));
        due(true, x.beats(1, 2));
        due(true, x.beats(2, 0));
        due(NONE, x.winner());
        x.votes(3, 2);
        due(0, x.winner());

        promise(46);
        due(3 + 3 * 2 + 0 + 2, x.points(0));
        due(0 + 1 + 0, x.points(3));
        due(NONE, x.points(4));
        due(NONE, x.points(-1));

        x = promise(47);
        due(0, x.runoff());
        // 3 goes, then of like ones the higher 2: its VOTES go to 1.
        x.votes(0, 4);
        x.votes(1, 3);
        x.ranks(1, 6 + 2);
        x.votes(2, 3);
        x.ranks(2, 14);
        due(1, x.runoff());
        x.votes(0, 7);
        due(0, x.runoff());
        x.votes(0, 2);
        due(1, x.runoff());
    }

    private static void numbers() {
        MagpieAccounts x = promise(48);
        due(1, x.digits(0, 0));
        due(1, x.digits(0, 50));
        due(1, x.digits(1, 50));
        due(4, x.digits(2, 10));
        due(100, x.digits(99, 50));
        due(51, x.digits(10, 50));
        due(16, x.digits(2, 50));
        due(1, x.digits(99, 0));
        due(NONE, x.digits(100, 1));
        due(NONE, x.digits(-1, 1));
        due(NONE, x.digits(2, 51));
        due(NONE, x.digits(2, -1));

        promise(49);
        String power = java.math.BigInteger.valueOf(99).pow(50).toString();
        for (int i = 0; i < 100; i += 11) due(power.charAt(i) - '0', x.digit(99, 50, i));
        due(NONE, x.digit(99, 50, 100));
        due(NONE, x.digit(99, 50, -1));
        due(0, x.digit(0, 1, 0));
        due(NONE, x.digit(0, 1, 1));
        due(1, x.digit(0, 0, 0));
        due(1, x.digit(10, 3, 0));
        due(0, x.digit(10, 3, 3));
        due(NONE, x.digit(100, 3, 0));
        due(NONE, x.digit(10, 51, 0));
        due(NONE, x.digit(10, -1, 0));

        promise(50);
        due(999, x.depth(999, 0));
        due(666, x.depth(999, 1));
        due(444, x.depth(999, 2));
        due(1, x.depth(2, 1));
        due(0, x.depth(2, 2));
        due(0, x.depth(0, 0));
        due(0, x.depth(999, 99));
        due(NONE, x.depth(1000, 0));
        due(NONE, x.depth(-1, 0));
        due(NONE, x.depth(5, 100));
        due(NONE, x.depth(5, -1));

        promise(51);
        due(0, x.rests(0));
        due(1, x.rests(1));
        due(2, x.rests(2));
        due(11, x.rests(100));
        due(NONE, x.rests(-1));
        due(NONE, x.rests(1000));
    }

    private static void games() {
        MagpieAccounts x = promise(52);
        int[] lost = {0, 2, 3, 5, 8, 13, 21, 34};
        for (int n = 0; n <= 40; n++) {
            boolean loses = false;
            for (int each : lost) loses |= each == n;
            due(loses ? 0 : 1, x.game(n));
        }
        due(NONE, x.game(41));
        due(NONE, x.game(-1));

        promise(53);
        due(1, x.take(4, 1));
        due(2, x.take(10, 2));
        due(NONE, x.take(10, 1));
        due(5, x.take(39, 40));
        due(1, x.take(40, 40));
        due(NONE, x.take(21, 20));
        due(21, x.take(21, 40));
        due(NONE, x.take(0, 40));
        due(NONE, x.take(41, 1));
        due(NONE, x.take(-1, 1));
        due(NONE, x.take(4, 0));
        due(NONE, x.take(4, 41));
    }

    private static void whoseLaw() {
        MagpieAccounts x = promise(54);
        due(-2, x.told(-2, 0));
        due(-2, x.told(9, 0));
        due(-2, x.told(0, 100));
        due(-2, x.told(0, -100));
        for (int i = 1; i <= 8; i++) due(i, x.told(i, i % 2 == 0 ? 99 : -99));
        due(-2, x.told(0, 0));
        due(8, x.about(5));
        due(0, x.told(NONE, 1000));
        due(0, x.about(5));

        x = promise(55);
        due(0, x.whose());
        tell(x, "brings count*2;");
        tell(x, "brings thing*2;");
        tell(x, "chance 1;");
        due(7, x.whose());
        x.told(2, 4);
        due(3, x.whose());
        x.told(5, 10);
        due(3, x.whose());
        x.rhyme(5, 1);
        due(1, x.whose());
        x.told(NONE, 0);
        x.told(5, -1);
        due(4, x.whose());
        due(NONE, x.about(2));
    }

    private static void eldestAndDue() {
        MagpieAccounts x = promise(56);
        due(NONE, x.eldest());
        x.bird(2, 1, 10);
        x.bird(2, 0, 10);
        x.bird(1, 0, 0);
        due(NONE, x.eldest());
        x.day(1);
        due(1, x.eldest());
        x.day(1);
        due(0, x.eldest());
        x.day(1);
        x.thin(1);
        due(1, x.eldest());

        x = promise(57);
        due(0, x.due());
        x.bird(2, 1, 0);
        x.bird(2, 0, 0);
        x.bird(3, 0, 0);
        due(6, x.due());
        x.day(1);
        due(1, x.due());
        x.day(2);
        due(5, x.due());
        x.thin(0);
        due(4, x.due());
    }

    private static void images() {
        MagpieAccounts x = promise(59);
        x.bird(1, 0, 10);
        tell(x, "chance 3;");
        x.by(0);
        x.rhyme(2, 7);
        x.day(2);
        x.morning(3, true);
        x.told(1, 1);
        x.follows(0, 1);
        x.votes(0, 9);
        x.ranks(0, 23);
        due(2, x.image());

        promise(60);
        int drawn = x.is(1);
        int fund = x.is(2);
        for (int round = 0; round < 2; round++) {
            x.bird(2, 0, 10);
            tell(x, "chance 4;");
            x.by(1);
            x.rhyme(2, 8);
            x.thin(0);
            x.grant(7);
            x.day(3);
            x.morning(4, true);
            x.told(2, 1);
            x.follows(0, 0);
            x.votes(0, 0);
            x.ranks(0, 0);
            tell(x, "day");
            feedAll(x, "day 2;");
            due(2, x.back());
            due(6, x.about(6));
            due(1, x.fault(0));
            due(1, x.about(0));
            due(1, x.about(1));
            due(0, x.about(2));
            due(2, x.about(3));
            due(1, x.about(4));
            due(1, x.about(5));
            due(7, x.things(2));
            due(0, x.of(0, 3));
            due(drawn, x.is(1));
            due(fund, x.is(2));
            due(2, x.book(NONE, 0));
            due(510, x.agree());
            due(27, x.points(3));
            due(3, x.of(0, 5));
        }
        due(1, x.undo());
        due(1, x.is(0));
        due(2, x.back());
        due(2, x.about(3));
        x.undo();
        x.undo();
        x.grant(1);
        x.grant(1);
        x.morning(NONE, true);
        x.morning(8, false);
        x.told(NONE, 0);
        x.told(5, -99);
        due(2, x.back());
        due(12, x.habits());
        due(4, x.habit(2));
        x.told(NONE, 0);
        x.told(5, 3);
        x.image();
        x.told(NONE, 0);
        x.told(6, 9);
        x.back();
        due(1, x.whose());
        due(1, x.undo());
        due(1, x.is(0));
        x.back();
        due(1, x.undo());
        due(0, x.undo());
        due(0, x.image());
        x.day(1);
        due(0, x.back());
        due(0, x.about(3));
        // The thirty STEPS of an image are its own.
        x = new MagpieAccounts();
        x.bird(1, 0, 10);
        x.day(47);
        due(47, x.image());
        x.day(20);
        for (int i = 0; i < 30; i++) x.undo();
        for (int i = 0; i < 17; i++) x.grant(3);
        due(47, x.back());
        for (int i = 29; i >= 0; i--) due(i, x.undo());
        due(17, x.is(0));
        due(16, x.book(16, 0));
        due(17, x.of(0, 4));
        due(-17, x.is(2));
    }

    private static void about() {
        MagpieAccounts x = promise(61);
        x.bird(1, 0, 0);
        x.bird(1, 0, 0);
        tell(x, "");
        tell(x, "");
        tell(x, "");
        x.by(2);
        x.day(4);
        x.morning(1, true);
        x.told(1, 1);
        x.told(1, 1);
        x.feed(0, 0, 0, 0, 0);
        due(2, x.about(0));
        due(3, x.about(1));
        due(2, x.about(2));
        due(4, x.about(3));
        due(1, x.about(4));
        due(2, x.about(5));
        due(20, x.about(6));
        due(-2, x.about(7));
        due(-2, x.about(-1));
        due(-2, x.about(LEAST));
    }
}
