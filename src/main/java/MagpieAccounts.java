import java.util.Arrays;

/** The county's accounts as the magpies at the gate of the Shire Hall keep them. */
public final class MagpieAccounts {
    public static final int NONE = -1;

    private static final int REFUSED = -2;
    private static final int NOT_BROUGHT = -1000;
    private static final int NO_VALUE = -100000;

    private static final int MAX_BIRDS = 8;
    private static final int MAX_PERIOD = 12;
    private static final int MAX_ODDS = 10;
    private static final int MAX_CAME = 9999;
    private static final int COUNTS = 9;
    private static final int MAX_THING = 9;
    private static final int MAX_FUND = 9999;
    private static final int MAX_GRANT = 999;
    private static final int LAST_DAY = 9999;
    private static final int MAX_DAYS = 60;
    private static final int MAX_BRINGS = 99;
    private static final int FIRST_X = 419;

    private static final int MAX_TAPE = 300;
    private static final int FED = 20;
    private static final int MAX_TEXTS = 4;
    private static final int MAX_CLAUSES = 24;
    private static final int MAX_OPEN = 8;
    private static final int MAX_NUMBER = 9999;
    private static final int MAX_SUM = 1000000;

    private static final int MAX_STEPS = 30;
    private static final int MAX_PAGES = 25;
    private static final int MAX_MORNINGS = 12;
    private static final int MAX_MORNING = 99;
    private static final int MAX_TOLD = 8;
    private static final int MAX_TRIALS = 12;
    private static final int MAX_SEED = 9999;
    private static final int MAX_YEARS = 40;
    private static final int MAX_AFTER = 1000000;
    private static final int MAX_ROTA = 999;

    private static final int PARISHES = 5;
    private static final int CAUSES = 4;
    private static final int ROWS = 24;
    private static final int MAX_VOTES = 999;
    private static final int MAX_SEATS = 30;

    private static final int MAX_BASE = 99;
    private static final int MAX_POWER = 50;
    private static final int MAX_DIGITS = 100;
    private static final int MAX_GUESS = 999;
    private static final int MAX_DEEP = 99;
    private static final int MAX_GAME = 40;

    // The kinds of TOKENS. The first 25 stand in the order of WORDS, the next 11 in that of SIGNS.
    private static final int WORD_DAY = 0;
    private static final int WORD_FUND = 1;
    private static final int WORD_LAST = 2;
    private static final int WORD_GONE = 3;
    private static final int WORD_NUMBER = 4;
    private static final int WORD_ODDS = 5;
    private static final int WORD_PERIOD = 6;
    private static final int WORD_COUNT = 7;
    private static final int WORD_THING = 8;
    private static final int WORD_RHYME = 9;
    private static final int WORD_CAME = 10;
    private static final int WORD_NOT = 11;
    private static final int WORD_AND = 12;
    private static final int WORD_OR = 13;
    private static final int WORD_IF = 14;
    private static final int WORD_THEN = 15;
    private static final int WORD_ELSE = 16;
    private static final int WORD_END = 17;
    private static final int WORD_CHANCE = 18;
    private static final int WORD_BRINGS = 19;
    private static final int WORD_BIRD = 20;
    private static final int WORD_THIN = 21;
    private static final int WORD_CALL = 22;
    private static final int WORD_GRANT = 23;
    private static final int WORD_BY = 24;
    private static final int SIGN_BELOW = 25;
    private static final int SIGN_ABOVE = 26;
    private static final int SIGN_SAME = 27;
    private static final int SIGN_UNLIKE = 28;
    private static final int SIGN_PLUS = 29;
    private static final int SIGN_MINUS = 30;
    private static final int SIGN_TIMES = 31;
    private static final int SIGN_OVER = 32;
    private static final int SIGN_OPEN = 33;
    private static final int SIGN_CLOSE = 34;
    private static final int SIGN_STOP = 35;
    private static final int SIGN_AT_MOST = 36;
    private static final int SIGN_AT_LEAST = 37;
    private static final int DIGITS = 38;
    private static final int NO_TOKEN = 39;
    private static final int TAPE_END = 40;
    // A - of one ONE bears a number of its own, since as an instruction it must differ from the - of two.
    private static final int NEGATED = 41;

    private static final int WORD_WIDTH = 6;
    private static final int WORD_KINDS = 25;
    private static final String WORDS = "day   fund  last  gone  numberodds  periodcount thing rhyme came  not   and   or    if    then  else  end   chancebringsbird  thin  call  grant by    ";
    private static final String SIGNS = "<>=#+-*/();";

    private static final int FAULT_PLACE = 1;
    private static final int FAULT_NUMBER = 2;
    private static final int FAULT_OPEN = 3;
    private static final int FAULT_TWICE = 4;
    private static final int FAULT_NAME = 5;
    private static final int FAULT_CLAUSES = 6;

    // All 24 rows of four causes, by the lowest first ones.
    private static final String RANK_ROWS = "012301320213023103120321102310321203123013021320201320312103213023012310301230213102312032013210";
    // Every number up to 40 is a sum of these, no two being neighbours here, in just one way.
    private static final int[] GAME_PARTS = {34, 21, 13, 8, 5, 3, 2, 1};

    private final Laws laws = new Laws();
    private final County county = laws.county;
    private final County kept = new County();
    private final Moment spare = new Moment();
    private final Reader reader = new Reader();
    private final Tape tape = reader.tape;
    private final Spread spread = new Spread();
    private final int[] chances = new int[MAX_BIRDS];
    private final int[] numeral = new int[MAX_DIGITS + 1];
    private int latestFault = NONE;
    private int latestPlace = NONE;

    public MagpieAccounts() {
    }

    // ---- what is told

    public int bird(int period, int phase, int odds) {
        if (!within(period, 1, MAX_PERIOD) || !within(phase, 0, period - 1) || !within(odds, 0, MAX_ODDS)) {
            return NONE;
        }
        return county.addBird(period, phase, odds);
    }

    public boolean rhyme(int count, int thing) {
        if (!isCount(count) || !within(thing, 0, MAX_THING)) {
            return false;
        }
        county.rhymes[count] = thing;
        return true;
    }

    public int feed(int a, int b, int c, int d, int e) {
        if (tape.length + FED > MAX_TAPE) {
            return NONE;
        }
        tape.add(a);
        tape.add(b);
        tape.add(c);
        tape.add(d);
        tape.add(e);
        return tape.length;
    }

    public int end(int n) {
        if (!within(n, 0, tape.length)) {
            return NONE;
        }
        tape.length = n;
        return n;
    }

    public int text() {
        if (county.textsRead >= MAX_TEXTS) {
            return NONE;
        }
        Text read = reader.readTape();
        tape.length = 0;
        latestFault = reader.fault;
        latestPlace = reader.place;
        return read == null ? NONE : county.addText(read);
    }

    public int fault(int what) {
        if (what == 0) {
            return latestFault;
        }
        return what == 1 ? latestPlace : NONE;
    }

    public boolean by(int text) {
        if (text != NONE && !county.hasText(text)) {
            return false;
        }
        county.ruling = text;
        return true;
    }

    // ---- what is done

    public boolean thin(int bird) {
        if (!county.canThin(bird)) {
            return false;
        }
        county.steps.keep(county.now);
        county.now.markGone(bird);
        return true;
    }

    public boolean call(int bird) {
        if (!county.canCall(bird)) {
            return false;
        }
        county.steps.keep(county.now);
        county.now.markBack(bird);
        return true;
    }

    public boolean grant(int pounds) {
        if (pounds == 0 || !within(pounds, -MAX_GRANT, MAX_GRANT) || !county.canGrant(pounds)) {
            return false;
        }
        county.steps.keep(county.now);
        county.now.fund += pounds;
        return true;
    }

    public int day(int n) {
        if (!within(n, 1, MAX_DAYS) || county.now.day + n > LAST_DAY) {
            return NONE;
        }
        return passSteps(n);
    }

    public int played(int text) {
        Text script = county.textAt(text);
        if (script == null) {
            return REFUSED;
        }
        for (int i = 0; i < script.verbs.length; i++) {
            if (!playClause(script.verbs[i], script.firsts[i], script.seconds[i])) {
                return i;
            }
        }
        return NONE;
    }

    public int years(int seed, int n) {
        if (!within(seed, 0, MAX_SEED) || !within(n, 1, MAX_YEARS)) {
            return NONE;
        }
        county.steps.keep(county.now);
        county.now.x = seed * 2 + FIRST_X;
        for (int i = 0; i < n; i++) {
            drawYear();
        }
        return county.now.day;
    }

    public int undo() {
        if (county.steps.many == 0) {
            return NONE;
        }
        county.steps.takeBack(county.now);
        return county.steps.many;
    }

    // ---- what is so

    public int of(int bird, int what) {
        if (!county.hasBird(bird)) {
            return NONE;
        }
        switch (what) {
            case 0:
                return county.periods[bird];
            case 1:
                return county.phases[bird];
            case 2:
                return county.odds[bird];
            case 3:
                return county.now.isGone(bird) ? 1 : 0;
            case 4:
                return county.now.came[bird];
            case 5:
                return laws.chanceOf(bird);
            default:
                return NONE;
        }
    }

    public int is(int what) {
        switch (what) {
            case 0:
                return county.now.day;
            case 1:
                return county.now.x;
            case 2:
                return county.now.fund;
            case 3:
                return county.now.count;
            case 4:
                return county.now.thing;
            default:
                return NO_VALUE;
        }
    }

    public int things(int count) {
        return isCount(count) ? county.rhymes[count] : NONE;
    }

    public int brings(int count) {
        return isCount(count) ? laws.broughtBy(county.rulingText(), count) : NOT_BROUGHT;
    }

    public int book(int i, int what) {
        if (i == NONE) {
            return county.now.pages;
        }
        if (!within(i, 0, county.now.pages - 1) || !within(what, 0, 3)) {
            return NOT_BROUGHT;
        }
        return county.now.onPage(i, what);
    }

    // ---- what comes

    public int foretold(int n, int what) {
        if (!within(n, 1, MAX_DAYS) || !within(what, 0, 1)) {
            return NO_VALUE;
        }
        spare.copy(county.now);
        for (int i = 0; i < n && county.canPass(); i++) {
            passDay();
        }
        int answer = what == 0 ? county.now.fund : county.now.count;
        county.now.copy(spare);
        return answer;
    }

    public long likely(int count, boolean low) {
        if (!isCount(count)) {
            return NONE;
        }
        int due = county.dueOn(county.now.day);
        noteChances();
        spreadOver(due, 0);
        return lowest(spread.just(count), spread.whole, low);
    }

    public long mean(boolean low) {
        int due = county.dueOn(county.now.day);
        noteChances();
        int tenths = 0;
        for (int bird = 0; bird < MAX_BIRDS; bird++) {
            if (isIn(due, bird)) {
                tenths += chances[bird];
            }
        }
        return lowest(tenths, MAX_ODDS, low);
    }

    public int best(int count, boolean many) {
        if (!isCount(count)) {
            return NONE;
        }
        int thinned = bestThinned(count);
        return many ? Integer.bitCount(thinned) : thinned;
    }

    public int morning(int day, boolean came) {
        if (day == NONE) {
            county.mornings.many = 0;
            return 0;
        }
        if (!within(day, 0, MAX_MORNING) || county.mornings.many >= MAX_MORNINGS) {
            return REFUSED;
        }
        return county.mornings.add(day, came);
    }

    public int habits() {
        return county.mornings.countFitting();
    }

    public int habit(int what) {
        int period = county.mornings.leastPeriod();
        if (period == NONE) {
            return NONE;
        }
        int phase = county.mornings.leastPhase(period);
        switch (what) {
            case 0:
                return period;
            case 1:
                return phase;
            case 2:
                return county.mornings.nextDay(period, phase);
            default:
                return NONE;
        }
    }

    public int whom() {
        int fitting = 0;
        for (int bird = 0; bird < county.birds; bird++) {
            if (county.mornings.fits(county.periods[bird], county.phases[bird])) {
                fitting |= 1 << bird;
            }
        }
        return fitting;
    }

    public int rota(int days) {
        return within(days, 0, MAX_ROTA) ? county.dueOn(county.now.day + days) : NONE;
    }

    public int gather() {
        int day = county.now.day;
        int stride = 1;
        boolean some = false;
        for (int bird = 0; bird < county.birds; bird++) {
            if (county.now.isGone(bird)) {
                continue;
            }
            some = true;
            day = firstOfHabit(day, stride, county.periods[bird], county.phases[bird]);
            if (day == NONE) {
                return NONE;
            }
            stride = leastCommon(stride, county.periods[bird]);
        }
        return some ? day : NONE;
    }

    public int comes(int count) {
        if (!isCount(count)) {
            return NONE;
        }
        noteChances();
        for (int days = 0; days <= MAX_DAYS; days++) {
            if (canCome(county.dueOn(county.now.day + days), count)) {
                return days;
            }
        }
        return NONE;
    }

    // ---- what follows

    public boolean follows(int count, int next) {
        if (!isCount(count) || !isCount(next)) {
            return false;
        }
        county.rings.next[count] = next;
        return true;
    }

    public int agree() {
        return county.rings.selfFollowing();
    }

    public int ring(boolean size) {
        int lowest = county.rings.smallest();
        return size ? county.rings.sizeAt(lowest) : lowest;
    }

    public int till(int count) {
        return isCount(count) ? county.rings.stepsToRing(count) : NONE;
    }

    public int after(int count, int n) {
        return isCount(count) && within(n, 0, MAX_AFTER) ? county.rings.behind(count, n) : NONE;
    }

    // ---- tests

    public long test(int n, int k, int odds, boolean low) {
        if (!within(n, 0, MAX_TRIALS) || !within(k, 0, n) || !within(odds, 0, MAX_ODDS)) {
            return NONE;
        }
        spread.ofTrials(n, odds);
        return lowest(spread.orMore(k), spread.whole, low);
    }

    public int bound(int n, int odds) {
        return within(n, 1, MAX_TRIALS) && within(odds, 0, MAX_ODDS) ? leastBound(n, odds) : NONE;
    }

    public long sure(int n, int odds, int real, boolean low) {
        if (!within(n, 1, MAX_TRIALS) || !within(odds, 0, MAX_ODDS) || !within(real, 0, MAX_ODDS)) {
            return NONE;
        }
        int least = leastBound(n, odds);
        if (least == NONE) {
            return NONE;
        }
        spread.ofTrials(n, real);
        return lowest(spread.orMore(least), spread.whole, low);
    }

    // ---- parishes

    public boolean votes(int parish, int votes) {
        if (!isParish(parish) || !within(votes, 0, MAX_VOTES)) {
            return false;
        }
        county.parishes.votes[parish] = votes;
        return true;
    }

    public int seats(int parish, int seats, boolean rests) {
        if (!isParish(parish) || !within(seats, 0, MAX_SEATS) || county.parishes.allVotes() == 0) {
            return NONE;
        }
        return rests ? county.parishes.seatsByRests(seats)[parish] : county.parishes.seatsByShares(seats)[parish];
    }

    public int unlike(int seats) {
        if (!within(seats, 0, MAX_SEATS) || county.parishes.allVotes() == 0) {
            return NONE;
        }
        return county.parishes.differing(seats);
    }

    public boolean ranks(int parish, int order) {
        if (!isParish(parish) || !within(order, 0, ROWS - 1)) {
            return false;
        }
        county.parishes.orders[parish] = order;
        return true;
    }

    public boolean beats(int a, int b) {
        return isCause(a) && isCause(b) && a != b && county.parishes.isAhead(a, b);
    }

    public int winner() {
        return county.parishes.aheadOfAll();
    }

    public int points(int cause) {
        return isCause(cause) ? county.parishes.pointsFor(cause) : NONE;
    }

    public int runoff() {
        return county.parishes.lastLeft();
    }

    // ---- numbers

    public int digits(int a, int n) {
        return within(a, 0, MAX_BASE) && within(n, 0, MAX_POWER) ? raise(a, n) : NONE;
    }

    public int digit(int a, int n, int i) {
        if (!within(a, 0, MAX_BASE) || !within(n, 0, MAX_POWER)) {
            return NONE;
        }
        int length = raise(a, n);
        return within(i, 0, length - 1) ? numeral[length - 1 - i] : NONE;
    }

    public int depth(int guess, int deep) {
        if (!within(guess, 0, MAX_GUESS) || !within(deep, 0, MAX_DEEP)) {
            return NONE;
        }
        int thought = guess;
        for (int i = 0; i < deep; i++) {
            thought = deeper(thought);
        }
        return thought;
    }

    public int rests(int guess) {
        if (!within(guess, 0, MAX_GUESS)) {
            return NONE;
        }
        int thought = guess;
        int deep = 0;
        while (deep <= MAX_GUESS && deeper(thought) != thought) {
            thought = deeper(thought);
            deep++;
        }
        return deep;
    }

    public int game(int n) {
        if (!within(n, 0, MAX_GAME)) {
            return NONE;
        }
        // Of 1 all may be taken at once, of more not: there a number that is one part itself is lost.
        return n == 1 || leastPart(n) < n ? 1 : 0;
    }

    public int take(int n, int most) {
        if (!within(n, 1, MAX_GAME) || !within(most, 1, MAX_GAME)) {
            return NONE;
        }
        int part = leastPart(n);
        return part <= most ? part : NONE;
    }

    // ---- whose law, the book, the image

    public int told(int count, int brings) {
        if (count == NONE) {
            county.tolds = 0;
            return 0;
        }
        if (!isCount(count) || !within(brings, -MAX_BRINGS, MAX_BRINGS) || county.tolds >= MAX_TOLD) {
            return REFUSED;
        }
        return county.addTold(count, brings);
    }

    public int whose() {
        int fitting = 0;
        for (int text = 0; text < county.textsRead; text++) {
            if (bringsAllTold(county.textAt(text))) {
                fitting |= 1 << text;
            }
        }
        return fitting;
    }

    public int eldest() {
        int eldest = NONE;
        int most = 0;
        for (int bird = 0; bird < county.birds; bird++) {
            if (county.now.came[bird] > most) {
                most = county.now.came[bird];
                eldest = bird;
            }
        }
        return eldest;
    }

    public int due() {
        return county.dueOn(county.now.day);
    }

    public int ledger(int thing) {
        return within(thing, 0, MAX_THING) ? county.now.countWritten(thing) : REFUSED;
    }

    public int image() {
        kept.copy(county);
        return county.now.day;
    }

    public int back() {
        county.copy(kept);
        return county.now.day;
    }

    public int about(int what) {
        switch (what) {
            case 0:
                return county.birds;
            case 1:
                return county.textsRead;
            case 2:
                return county.ruling;
            case 3:
                return county.steps.many;
            case 4:
                return county.mornings.many;
            case 5:
                return county.tolds;
            case 6:
                return tape.length;
            default:
                return REFUSED;
        }
    }

    // ---- inside: days, scripts, years

    private int passSteps(int n) {
        int all = 0;
        for (int i = 0; i < n; i++) {
            county.steps.keep(county.now);
            all += passDay();
        }
        return all;
    }

    private int passDay() {
        Moment now = county.now;
        int many = 0;
        for (int bird = 0; bird < county.birds; bird++) {
            if (county.isDue(bird, now.day)) {
                int draw = now.draw() % MAX_ODDS;
                if (draw < laws.chanceOf(bird)) {
                    now.noteCame(bird);
                    many++;
                }
            }
        }
        int brought = laws.broughtBy(county.rulingText(), many);
        now.count = many;
        now.thing = county.rhymes[many];
        now.fund = held(now.fund + brought, -MAX_FUND, MAX_FUND);
        now.write(brought);
        now.day++;
        return many;
    }

    private boolean playClause(int verb, int first, int second) {
        switch (verb) {
            case WORD_BIRD:
                return bird(first, 0, second) != NONE;
            case WORD_RHYME:
                return rhyme(first, second);
            case WORD_THIN:
                return thin(first);
            case WORD_CALL:
                return call(first);
            case WORD_GRANT:
                return grant(first);
            case WORD_DAY:
                int left = Math.min(first, LAST_DAY - county.now.day);
                passSteps(left);
                return left == first;
            default:
                return true;
        }
    }

    private void drawYear() {
        Moment now = county.now;
        int x = now.draw();
        int bird = x / 6 % MAX_BIRDS;
        int pounds = 1 + x / 6 % 50;
        switch (x % 6) {
            case 0:
                if (x % 4 == 2 && county.canThin(bird)) {
                    now.markGone(bird);
                }
                break;
            case 1:
                if (county.canCall(bird)) {
                    now.markBack(bird);
                }
                break;
            case 2:
                if (x % 4 == 0 && county.canGrant(pounds)) {
                    now.fund += pounds;
                }
                break;
            default:
                if (county.canPass()) {
                    passDay();
                }
                break;
        }
    }

    // ---- inside: chances

    private void noteChances() {
        for (int bird = 0; bird < county.birds; bird++) {
            chances[bird] = laws.chanceOf(bird);
        }
    }

    // A thinned BIRD still counts as one of chance 0, so that all sets are parts of the same whole.
    private void spreadOver(int due, int thinned) {
        spread.begin();
        for (int bird = 0; bird < MAX_BIRDS; bird++) {
            if (isIn(due, bird)) {
                spread.addOne(isIn(thinned, bird) ? 0 : chances[bird]);
            }
        }
    }

    private int bestThinned(int count) {
        int due = county.dueOn(county.now.day);
        noteChances();
        int best = 0;
        long most = NONE;
        for (int set = 0; set < 1 << MAX_BIRDS; set++) {
            if ((set & ~due) != 0) {
                continue;
            }
            spreadOver(due, set);
            long ways = spread.just(count);
            if (ways > most || ways == most && Integer.bitCount(set) < Integer.bitCount(best)) {
                most = ways;
                best = set;
            }
        }
        return best;
    }

    private boolean canCome(int due, int count) {
        int certain = 0;
        int open = 0;
        for (int bird = 0; bird < MAX_BIRDS; bird++) {
            if (isIn(due, bird) && chances[bird] == MAX_ODDS) {
                certain++;
            } else if (isIn(due, bird) && chances[bird] > 0) {
                open++;
            }
        }
        return within(count, certain, certain + open);
    }

    private int leastBound(int n, int odds) {
        spread.ofTrials(n, odds);
        for (int k = 0; k <= n; k++) {
            if (spread.orMore(k) * 20 <= spread.whole) {
                return k;
            }
        }
        return NONE;
    }

    private boolean bringsAllTold(Text text) {
        for (int i = 0; i < county.tolds; i++) {
            if (laws.broughtBy(text, county.toldCounts[i]) != county.toldBrings[i]) {
                return false;
            }
        }
        return true;
    }

    // ---- inside: numbers

    private int raise(int base, int power) {
        numeral[0] = 1;
        int length = 1;
        for (int i = 0; i < power; i++) {
            length = multiply(base, length);
        }
        return length;
    }

    // The lowest digit stands first in numeral; the answer is the new length. From 1 on no zeros come ahead.
    private int multiply(int factor, int length) {
        int carry = 0;
        int places = 0;
        while (places < MAX_DIGITS && (places < length || carry > 0)) {
            int sum = carry + (places < length ? numeral[places] * factor : 0);
            numeral[places] = sum % 10;
            carry = sum / 10;
            places++;
        }
        return places;
    }

    private static int deeper(int thought) {
        return thought * 2 / 3;
    }

    private static int leastPart(int n) {
        int rest = n;
        int least = 0;
        for (int part : GAME_PARTS) {
            if (part <= rest) {
                rest -= part;
                least = part;
            }
        }
        return least;
    }

    private static int firstOfHabit(int from, int stride, int period, int phase) {
        for (int i = 0; period > 0 && i < period; i++) {
            if ((from + i * stride) % period == phase) {
                return from + i * stride;
            }
        }
        return NONE;
    }

    private static int leastCommon(int a, int b) {
        long common = greatestCommon(a, b);
        return common == 0 ? 0 : (int) (a / common) * b;
    }

    private static long greatestCommon(long a, long b) {
        long high = a;
        long low = b;
        // 100 turns are more than any two longs need.
        for (int turn = 0; turn < 100 && low != 0; turn++) {
            long rest = high % low;
            high = low;
            low = rest;
        }
        return high;
    }

    private static long lowest(long upper, long lower, boolean low) {
        long common = greatestCommon(upper, lower);
        if (common == 0) {
            return NONE;
        }
        return low ? lower / common : upper / common;
    }

    private static boolean within(int value, int low, int high) {
        return value >= low && value <= high;
    }

    private static int held(int value, int low, int high) {
        if (value < low) {
            return low;
        }
        return value > high ? high : value;
    }

    private static boolean isCount(int count) {
        return count >= 0 && count < COUNTS;
    }

    private static boolean isParish(int parish) {
        return within(parish, 0, PARISHES - 1);
    }

    private static boolean isCause(int cause) {
        return within(cause, 0, CAUSES - 1);
    }

    private static boolean isIn(int set, int member) {
        return (set >> member & 1) == 1;
    }

    /** All that an image holds. */
    private static final class County {
        final Moment now = new Moment();
        final Steps steps = new Steps();
        final int[] periods = new int[MAX_BIRDS];
        final int[] phases = new int[MAX_BIRDS];
        final int[] odds = new int[MAX_BIRDS];
        int birds;
        final int[] rhymes = {0, 1, 2, 3, 4, 5, 6, 7, 8};
        final Text[] texts = new Text[MAX_TEXTS];
        int textsRead;
        int ruling = NONE;
        final Mornings mornings = new Mornings();
        final Rings rings = new Rings();
        final Parishes parishes = new Parishes();
        final int[] toldCounts = new int[MAX_TOLD];
        final int[] toldBrings = new int[MAX_TOLD];
        int tolds;

        void copy(County from) {
            now.copy(from.now);
            steps.copy(from.steps);
            System.arraycopy(from.periods, 0, periods, 0, MAX_BIRDS);
            System.arraycopy(from.phases, 0, phases, 0, MAX_BIRDS);
            System.arraycopy(from.odds, 0, odds, 0, MAX_BIRDS);
            birds = from.birds;
            System.arraycopy(from.rhymes, 0, rhymes, 0, COUNTS);
            for (int i = 0; i < MAX_TEXTS; i++) {
                texts[i] = from.texts[i];
            }
            textsRead = from.textsRead;
            ruling = from.ruling;
            mornings.copy(from.mornings);
            rings.copy(from.rings);
            parishes.copy(from.parishes);
            System.arraycopy(from.toldCounts, 0, toldCounts, 0, MAX_TOLD);
            System.arraycopy(from.toldBrings, 0, toldBrings, 0, MAX_TOLD);
            tolds = from.tolds;
        }

        int addBird(int period, int phase, int itsOdds) {
            if (birds >= MAX_BIRDS) {
                return NONE;
            }
            periods[birds] = period;
            phases[birds] = phase;
            odds[birds] = itsOdds;
            birds++;
            return birds - 1;
        }

        int addText(Text read) {
            if (textsRead >= MAX_TEXTS) {
                return NONE;
            }
            texts[textsRead] = read;
            textsRead++;
            return textsRead - 1;
        }

        int addTold(int count, int brings) {
            if (tolds < MAX_TOLD) {
                toldCounts[tolds] = count;
                toldBrings[tolds] = brings;
                tolds++;
            }
            return tolds;
        }

        boolean hasBird(int bird) {
            return bird >= 0 && bird < birds;
        }

        boolean hasText(int text) {
            return text >= 0 && text < textsRead;
        }

        Text textAt(int text) {
            return hasText(text) ? texts[text] : null;
        }

        Text rulingText() {
            return textAt(ruling);
        }

        boolean isDue(int bird, int day) {
            return !now.isGone(bird) && periods[bird] > 0 && day % periods[bird] == phases[bird];
        }

        int dueOn(int day) {
            int set = 0;
            for (int bird = 0; bird < birds; bird++) {
                if (isDue(bird, day)) {
                    set |= 1 << bird;
                }
            }
            return set;
        }

        boolean canThin(int bird) {
            return hasBird(bird) && !now.isGone(bird);
        }

        boolean canCall(int bird) {
            return hasBird(bird) && now.isGone(bird);
        }

        boolean canGrant(int pounds) {
            return within(now.fund + pounds, -MAX_FUND, MAX_FUND);
        }

        boolean canPass() {
            return now.day < LAST_DAY;
        }
    }

    /** What a STEP that is taken back brings again. */
    private static final class Moment {
        int gone;
        int fund;
        int count;
        int thing;
        int day;
        int x = FIRST_X;
        final int[] came = new int[MAX_BIRDS];
        // A page is one number, so that the thirty moments of the STEPS stay small.
        final int[] book = new int[MAX_PAGES];
        int pages;

        void copy(Moment from) {
            gone = from.gone;
            fund = from.fund;
            count = from.count;
            thing = from.thing;
            day = from.day;
            x = from.x;
            System.arraycopy(from.came, 0, came, 0, MAX_BIRDS);
            System.arraycopy(from.book, 0, book, 0, MAX_PAGES);
            pages = from.pages;
        }

        boolean isGone(int bird) {
            return isIn(gone, bird);
        }

        void markGone(int bird) {
            gone |= 1 << bird;
        }

        void markBack(int bird) {
            gone &= ~(1 << bird);
        }

        void noteCame(int bird) {
            if (came[bird] < MAX_CAME) {
                came[bird]++;
            }
        }

        int draw() {
            int drawn = x;
            x = (x * 661 + 541) % 30949;
            return drawn;
        }

        void write(int brought) {
            if (pages >= MAX_PAGES) {
                System.arraycopy(book, 1, book, 0, MAX_PAGES - 1);
                pages = MAX_PAGES - 1;
            }
            book[pages] = day << 16 | count << 12 | thing << 8 | brought + MAX_BRINGS;
            pages++;
        }

        int onPage(int i, int what) {
            int page = book[i];
            switch (what) {
                case 0:
                    return page >> 16;
                case 1:
                    return page >> 12 & 15;
                case 2:
                    return page >> 8 & 15;
                default:
                    return (page & 255) - MAX_BRINGS;
            }
        }

        int countWritten(int asked) {
            int times = 0;
            for (int i = 0; i < pages; i++) {
                if (onPage(i, 2) == asked) {
                    times++;
                }
            }
            return times;
        }
    }

    /** The latest STEPS, each as the moment ahead of it. */
    private static final class Steps {
        private final Moment[] ahead = new Moment[MAX_STEPS];
        private int first;
        int many;

        Steps() {
            for (int i = 0; i < MAX_STEPS; i++) {
                ahead[i] = new Moment();
            }
        }

        void copy(Steps from) {
            first = from.first;
            many = from.many;
            for (int i = 0; i < many; i++) {
                int at = (first + i) % MAX_STEPS;
                ahead[at].copy(from.ahead[at]);
            }
        }

        void keep(Moment now) {
            ahead[(first + many) % MAX_STEPS].copy(now);
            if (many < MAX_STEPS) {
                many++;
            } else {
                first = (first + 1) % MAX_STEPS;
            }
        }

        void takeBack(Moment now) {
            if (many > 0) {
                many--;
                now.copy(ahead[(first + many) % MAX_STEPS]);
            }
        }
    }

    /** MORNINGS, and the habits that fit them. */
    private static final class Mornings {
        private final int[] days = new int[MAX_MORNINGS];
        private final boolean[] came = new boolean[MAX_MORNINGS];
        int many;

        void copy(Mornings from) {
            for (int i = 0; i < MAX_MORNINGS; i++) {
                days[i] = from.days[i];
                came[i] = from.came[i];
            }
            many = from.many;
        }

        int add(int day, boolean itCame) {
            if (many < MAX_MORNINGS) {
                days[many] = day;
                came[many] = itCame;
                many++;
            }
            return many;
        }

        boolean fits(int period, int phase) {
            for (int i = 0; period > 0 && i < many; i++) {
                if ((days[i] % period == phase) != came[i]) {
                    return false;
                }
            }
            return true;
        }

        int countFitting() {
            int fitting = 0;
            for (int period = 1; period <= MAX_PERIOD; period++) {
                for (int phase = 0; phase < period; phase++) {
                    if (fits(period, phase)) {
                        fitting++;
                    }
                }
            }
            return fitting;
        }

        int leastPeriod() {
            for (int period = 1; period <= MAX_PERIOD; period++) {
                if (leastPhase(period) != NONE) {
                    return period;
                }
            }
            return NONE;
        }

        int leastPhase(int period) {
            for (int phase = 0; phase < period; phase++) {
                if (fits(period, phase)) {
                    return phase;
                }
            }
            return NONE;
        }

        int nextDay(int period, int phase) {
            int latest = -1;
            for (int i = 0; i < many; i++) {
                latest = Math.max(latest, days[i]);
            }
            return firstOfHabit(latest + 1, 1, period, phase);
        }
    }

    /** WHAT FOLLOWS each COUNT. */
    private static final class Rings {
        final int[] next = {0, 1, 2, 3, 4, 5, 6, 7, 8};

        void copy(Rings from) {
            System.arraycopy(from.next, 0, next, 0, COUNTS);
        }

        int selfFollowing() {
            int set = 0;
            for (int count = 0; count < COUNTS; count++) {
                if (next[count] == count) {
                    set |= 1 << count;
                }
            }
            return set;
        }

        // 0 for a COUNT that is in no ring.
        int sizeAt(int count) {
            int other = count;
            for (int size = 1; size <= COUNTS; size++) {
                other = next[other];
                if (other == count) {
                    return size;
                }
            }
            return 0;
        }

        int smallest() {
            int best = 0;
            int least = COUNTS + 1;
            for (int count = 0; count < COUNTS; count++) {
                int size = sizeAt(count);
                if (size > 0 && size < least) {
                    least = size;
                    best = count;
                }
            }
            return best;
        }

        int stepsToRing(int count) {
            int other = count;
            int steps = 0;
            while (steps < COUNTS && sizeAt(other) == 0) {
                other = next[other];
                steps++;
            }
            return steps;
        }

        int behind(int count, int n) {
            int steps = n;
            int ahead = stepsToRing(count);
            if (n > ahead) {
                // Whole turns of the ring change nothing, so a million steps need not be walked.
                int size = sizeAt(walked(count, ahead));
                steps = size > 0 ? ahead + (n - ahead) % size : n;
            }
            return walked(count, steps);
        }

        private int walked(int count, int steps) {
            int other = count;
            for (int i = 0; i < steps; i++) {
                other = next[other];
            }
            return other;
        }
    }

    /** VOTES and RANKS of the PARISHES. */
    private static final class Parishes {
        final int[] votes = new int[PARISHES];
        final int[] orders = new int[PARISHES];
        private final int[] shared = new int[PARISHES];
        private final int[] rested = new int[PARISHES];
        private final int[] left = new int[PARISHES];

        void copy(Parishes from) {
            System.arraycopy(from.votes, 0, votes, 0, PARISHES);
            System.arraycopy(from.orders, 0, orders, 0, PARISHES);
        }

        int allVotes() {
            int all = 0;
            for (int each : votes) {
                all += each;
            }
            return all;
        }

        int[] seatsByShares(int seats) {
            Arrays.fill(shared, 0);
            for (int i = 0; i < seats; i++) {
                int best = 0;
                for (int parish = 1; parish < PARISHES; parish++) {
                    if (votes[parish] * (shared[best] + 1) > votes[best] * (shared[parish] + 1)) {
                        best = parish;
                    }
                }
                shared[best]++;
            }
            return shared;
        }

        int[] seatsByRests(int seats) {
            int all = allVotes();
            int open = seats;
            for (int parish = 0; parish < PARISHES; parish++) {
                int due = votes[parish] * seats;
                rested[parish] = all > 0 ? due / all : 0;
                left[parish] = all > 0 ? due % all : 0;
                open -= rested[parish];
            }
            for (int i = 0; i < open; i++) {
                int best = 0;
                for (int parish = 1; parish < PARISHES; parish++) {
                    if (left[parish] > left[best]) {
                        best = parish;
                    }
                }
                rested[best]++;
                left[best] = -1;
            }
            return rested;
        }

        int differing(int seats) {
            seatsByShares(seats);
            seatsByRests(seats);
            int set = 0;
            for (int parish = 0; parish < PARISHES; parish++) {
                if (shared[parish] != rested[parish]) {
                    set |= 1 << parish;
                }
            }
            return set;
        }

        private int causeAt(int parish, int place) {
            int at = orders[parish] * CAUSES + place;
            return within(at, 0, RANK_ROWS.length() - 1) ? RANK_ROWS.charAt(at) - '0' : 0;
        }

        private int placeOf(int parish, int cause) {
            int place = 0;
            while (place < CAUSES - 1 && causeAt(parish, place) != cause) {
                place++;
            }
            return place;
        }

        boolean isAhead(int a, int b) {
            int lead = 0;
            for (int parish = 0; parish < PARISHES; parish++) {
                boolean ahead = placeOf(parish, a) < placeOf(parish, b);
                lead += ahead ? votes[parish] : -votes[parish];
            }
            return lead > 0;
        }

        int aheadOfAll() {
            for (int cause = 0; cause < CAUSES; cause++) {
                int beaten = 0;
                for (int other = 0; other < CAUSES; other++) {
                    if (other != cause && isAhead(cause, other)) {
                        beaten++;
                    }
                }
                if (beaten == CAUSES - 1) {
                    return cause;
                }
            }
            return NONE;
        }

        int pointsFor(int cause) {
            int sum = 0;
            for (int parish = 0; parish < PARISHES; parish++) {
                sum += votes[parish] * (CAUSES - 1 - placeOf(parish, cause));
            }
            return sum;
        }

        int lastLeft() {
            int set = (1 << CAUSES) - 1;
            for (int round = 1; round < CAUSES; round++) {
                set &= ~(1 << weakest(set));
            }
            int cause = 0;
            while (cause < CAUSES - 1 && !isIn(set, cause)) {
                cause++;
            }
            return cause;
        }

        private int weakest(int set) {
            int weakest = 0;
            int fewest = PARISHES * MAX_VOTES;
            for (int cause = 0; cause < CAUSES; cause++) {
                if (isIn(set, cause)) {
                    int first = firstVotes(cause, set);
                    if (first <= fewest) {
                        fewest = first;
                        weakest = cause;
                    }
                }
            }
            return weakest;
        }

        private int firstVotes(int cause, int set) {
            int sum = 0;
            for (int parish = 0; parish < PARISHES; parish++) {
                int place = 0;
                while (place < CAUSES - 1 && !isIn(set, causeAt(parish, place))) {
                    place++;
                }
                if (causeAt(parish, place) == cause) {
                    sum += votes[parish];
                }
            }
            return sum;
        }
    }

    /** How many of some come, each by odds of ten: the ways for each number, and for all of them. */
    private static final class Spread {
        private final long[] ways = new long[MAX_TRIALS + 1];
        private int added;
        long whole = 1;

        void begin() {
            Arrays.fill(ways, 0);
            ways[0] = 1;
            added = 0;
            whole = 1;
        }

        void addOne(int odds) {
            if (added >= MAX_TRIALS) {
                return;
            }
            added++;
            for (int many = added; many > 0; many--) {
                ways[many] = ways[many] * (MAX_ODDS - odds) + ways[many - 1] * odds;
            }
            ways[0] = ways[0] * (MAX_ODDS - odds);
            whole *= MAX_ODDS;
        }

        void ofTrials(int n, int odds) {
            begin();
            for (int i = 0; i < n; i++) {
                addOne(odds);
            }
        }

        long just(int many) {
            return within(many, 0, MAX_TRIALS) ? ways[many] : 0;
        }

        long orMore(int many) {
            long sum = 0;
            for (int i = Math.max(0, many); i <= MAX_TRIALS; i++) {
                sum += ways[i];
            }
            return sum;
        }
    }

    /** A TEXT that was read: its laws as instructions, its other CLAUSES as rows. */
    private static final class Text {
        final int[] ops;
        final int[] args;
        final int chanceFrom;
        final int chanceTo;
        final int bringsFrom;
        final int bringsTo;
        final int[] verbs;
        final int[] firsts;
        final int[] seconds;

        Text(Reader reader) {
            ops = Arrays.copyOf(reader.ops, reader.size);
            args = Arrays.copyOf(reader.args, reader.size);
            chanceFrom = reader.chanceFrom;
            chanceTo = reader.chanceTo;
            bringsFrom = reader.bringsFrom;
            bringsTo = reader.bringsTo;
            verbs = Arrays.copyOf(reader.verbs, reader.clauses);
            firsts = Arrays.copyOf(reader.firsts, reader.clauses);
            seconds = Arrays.copyOf(reader.seconds, reader.clauses);
        }
    }

    /** The tape and its TOKENS. */
    private static final class Tape {
        private final int[] bytes = new int[MAX_TAPE];
        int length;
        final int[] kinds = new int[MAX_TAPE + 1];
        final int[] places = new int[MAX_TAPE + 1];
        final int[] values = new int[MAX_TAPE + 1];
        int tokens;

        void add(int four) {
            for (int shift = 24; shift >= 0 && length < MAX_TAPE; shift -= 8) {
                bytes[length] = four >> shift & 255;
                length++;
            }
        }

        void scan() {
            tokens = 0;
            int at = 0;
            while (at < length) {
                if (bytes[at] == ' ' || bytes[at] == '\n') {
                    at++;
                } else {
                    at += Math.max(1, scanToken(at));
                }
            }
            put(TAPE_END, length, 0);
        }

        private void put(int kind, int place, int value) {
            if (tokens < kinds.length) {
                kinds[tokens] = kind;
                places[tokens] = place;
                values[tokens] = value;
                tokens++;
            }
        }

        // How many bytes the TOKEN has.
        private int scanToken(int at) {
            if (isLetter(bytes[at])) {
                return scanWord(at);
            }
            return isDigit(bytes[at]) ? scanNumber(at) : scanSign(at);
        }

        private int scanWord(int at) {
            int behind = at + 1;
            while (behind < length && isLetter(bytes[behind])) {
                behind++;
            }
            put(kindOfWord(at, behind - at), at, 0);
            return behind - at;
        }

        private int scanNumber(int at) {
            int value = bytes[at] - '0';
            int behind = at + 1;
            while (behind < length && isDigit(bytes[behind])) {
                value = Math.min(MAX_NUMBER + 1, value * 10 + bytes[behind] - '0');
                behind++;
            }
            put(DIGITS, at, value);
            return behind - at;
        }

        private int scanSign(int at) {
            int sign = SIGNS.indexOf((char) bytes[at]);
            if (sign < 0) {
                put(NO_TOKEN, at, 0);
                return 1;
            }
            boolean longer = sign <= 1 && at + 1 < length && bytes[at + 1] == '=';
            put(sign + (longer ? SIGN_AT_MOST : SIGN_BELOW), at, 0);
            return longer ? 2 : 1;
        }

        private int kindOfWord(int at, int size) {
            for (int word = 0; word < WORD_KINDS && size <= WORD_WIDTH; word++) {
                int same = 0;
                while (same < size && WORDS.charAt(word * WORD_WIDTH + same) == bytes[at + same]) {
                    same++;
                }
                boolean whole = size == WORD_WIDTH || WORDS.charAt(word * WORD_WIDTH + size) == ' ';
                if (same == size && whole) {
                    return word;
                }
            }
            return NO_TOKEN;
        }

        private static boolean isLetter(int sign) {
            return within(sign, 'a', 'z') || within(sign, 'A', 'Z');
        }

        private static boolean isDigit(int sign) {
            return within(sign, '0', '9');
        }
    }

    /** Reads the tape as a TEXT. At a FAULT it goes to the tape's end, where no loop goes on and nothing is open. */
    private static final class Reader {
        final Tape tape = new Tape();
        private int at;
        private boolean inChance;
        int fault;
        int place = NONE;
        final int[] ops = new int[MAX_TAPE];
        final int[] args = new int[MAX_TAPE];
        int size;
        int chanceFrom;
        int chanceTo;
        int bringsFrom;
        int bringsTo;
        final int[] verbs = new int[MAX_CLAUSES];
        final int[] firsts = new int[MAX_CLAUSES];
        final int[] seconds = new int[MAX_CLAUSES];
        int clauses;

        // null: it has a FAULT.
        Text readTape() {
            tape.scan();
            at = 0;
            fault = 0;
            place = NONE;
            size = 0;
            chanceFrom = NONE;
            bringsFrom = NONE;
            clauses = 0;
            for (int i = 0; i <= MAX_CLAUSES && kind() != TAPE_END; i++) {
                readClause();
            }
            return fault == 0 ? new Text(this) : null;
        }

        private int kind() {
            return at >= 0 && at < tape.tokens ? tape.kinds[at] : TAPE_END;
        }

        private void fail(int what) {
            if (fault == 0 && within(at, 0, tape.tokens - 1)) {
                fault = what;
                place = tape.places[at];
            }
            at = tape.tokens - 1;
        }

        private void expect(int wanted) {
            if (kind() == wanted) {
                at++;
            } else {
                fail(FAULT_PLACE);
            }
        }

        private int readNumber(int low, int high) {
            if (kind() != DIGITS) {
                fail(FAULT_PLACE);
                return 0;
            }
            int value = tape.values[at];
            if (!within(value, low, high)) {
                fail(FAULT_NUMBER);
                return 0;
            }
            at++;
            return value;
        }

        private void readClause() {
            int verb = kind();
            if (!isVerb(verb)) {
                fail(FAULT_PLACE);
            } else if (verb == WORD_CHANCE && chanceFrom != NONE || verb == WORD_BRINGS && bringsFrom != NONE) {
                fail(FAULT_TWICE);
            } else if (clauses >= MAX_CLAUSES) {
                fail(FAULT_CLAUSES);
            } else {
                at++;
                verbs[clauses] = verb;
                firsts[clauses] = 0;
                seconds[clauses] = 0;
                if (verb == WORD_CHANCE || verb == WORD_BRINGS) {
                    readLaw(verb);
                } else {
                    readNumbers(verb);
                }
                expect(SIGN_STOP);
                clauses++;
            }
        }

        private static boolean isVerb(int kind) {
            return within(kind, WORD_CHANCE, WORD_GRANT) || kind == WORD_RHYME || kind == WORD_DAY;
        }

        private void readNumbers(int verb) {
            switch (verb) {
                case WORD_BIRD:
                    firsts[clauses] = readNumber(1, MAX_PERIOD);
                    expect(WORD_ODDS);
                    seconds[clauses] = readNumber(0, MAX_ODDS);
                    break;
                case WORD_RHYME:
                    firsts[clauses] = readNumber(0, COUNTS - 1);
                    expect(WORD_BY);
                    seconds[clauses] = readNumber(0, MAX_THING);
                    break;
                case WORD_GRANT:
                    firsts[clauses] = readNumber(1, MAX_GRANT);
                    break;
                case WORD_DAY:
                    firsts[clauses] = readNumber(1, MAX_DAYS);
                    break;
                default:
                    firsts[clauses] = readNumber(0, MAX_BIRDS - 1);
                    break;
            }
        }

        private void readLaw(int verb) {
            inChance = verb == WORD_CHANCE;
            int from = size;
            readSum(0);
            if (inChance) {
                chanceFrom = from;
                chanceTo = size;
            } else {
                bringsFrom = from;
                bringsTo = size;
            }
        }

        private void emit(int op, int arg) {
            if (size < MAX_TAPE) {
                ops[size] = op;
                args[size] = arg;
                size++;
            }
        }

        private void readSum(int open) {
            readProduct(open);
            for (int i = 0; i < MAX_TAPE && (kind() == SIGN_PLUS || kind() == SIGN_MINUS); i++) {
                int sign = kind();
                at++;
                readProduct(open);
                emit(sign, 0);
            }
        }

        private void readProduct(int open) {
            readOne(open);
            for (int i = 0; i < MAX_TAPE && (kind() == SIGN_TIMES || kind() == SIGN_OVER); i++) {
                int sign = kind();
                at++;
                readOne(open);
                emit(sign, 0);
            }
        }

        private void readOne(int open) {
            int kind = kind();
            if (kind == DIGITS) {
                emit(DIGITS, readNumber(0, MAX_NUMBER));
            } else if (within(kind, WORD_DAY, WORD_THING)) {
                readName(kind);
            } else if (!opensOne(kind)) {
                fail(FAULT_PLACE);
            } else if (open >= MAX_OPEN) {
                fail(FAULT_OPEN);
            } else {
                at++;
                readOpened(kind, open + 1);
            }
        }

        private static boolean opensOne(int kind) {
            return kind == SIGN_OPEN || kind == SIGN_MINUS || kind == WORD_RHYME || kind == WORD_CAME || kind == WORD_IF;
        }

        private void readName(int name) {
            boolean strange = inChance ? name >= WORD_COUNT : within(name, WORD_NUMBER, WORD_PERIOD);
            if (strange) {
                fail(FAULT_NAME);
            } else {
                at++;
                emit(name, 0);
            }
        }

        private void readOpened(int kind, int open) {
            if (kind == SIGN_OPEN) {
                readSum(open);
                expect(SIGN_CLOSE);
            } else if (kind == WORD_IF) {
                readChoice(open);
            } else {
                readOne(open);
                emit(kind == SIGN_MINUS ? NEGATED : kind, 0);
            }
        }

        private void readChoice(int open) {
            readEither(open);
            expect(WORD_THEN);
            int leap = size;
            emit(WORD_THEN, 0);
            readSum(open);
            expect(WORD_ELSE);
            int skip = size;
            emit(WORD_ELSE, 0);
            aim(leap);
            readSum(open);
            expect(WORD_END);
            aim(skip);
        }

        private void aim(int instruction) {
            if (within(instruction, 0, MAX_TAPE - 1)) {
                args[instruction] = size;
            }
        }

        private void readEither(int open) {
            readBoth(open);
            for (int i = 0; i < MAX_TAPE && kind() == WORD_OR; i++) {
                at++;
                readBoth(open);
                emit(WORD_OR, 0);
            }
        }

        private void readBoth(int open) {
            readAsk(open);
            for (int i = 0; i < MAX_TAPE && kind() == WORD_AND; i++) {
                at++;
                readAsk(open);
                emit(WORD_AND, 0);
            }
        }

        private void readAsk(int open) {
            if (kind() != WORD_NOT) {
                readCompared(open);
            } else if (open >= MAX_OPEN) {
                fail(FAULT_OPEN);
            } else {
                at++;
                readAsk(open + 1);
                emit(WORD_NOT, 0);
            }
        }

        private void readCompared(int open) {
            readSum(open);
            int sign = kind();
            if (within(sign, SIGN_BELOW, SIGN_UNLIKE) || within(sign, SIGN_AT_MOST, SIGN_AT_LEAST)) {
                at++;
                readSum(open);
                emit(sign, 0);
            } else {
                fail(FAULT_PLACE);
            }
        }
    }

    /** What the laws of a TEXT say of the county as it is. An instruction bears the number of its TOKEN. */
    private static final class Laws {
        final County county = new County();
        private final int[] pile = new int[MAX_TAPE + 1];
        private int bird;
        private int count;

        int chanceOf(int asked) {
            if (!county.hasBird(asked)) {
                return 0;
            }
            Text text = county.rulingText();
            if (text == null || text.chanceFrom == NONE) {
                return county.odds[asked];
            }
            bird = asked;
            return held(run(text, text.chanceFrom, text.chanceTo), 0, MAX_ODDS);
        }

        int broughtBy(Text text, int asked) {
            if (!isCount(asked)) {
                return 0;
            }
            if (text == null || text.bringsFrom == NONE) {
                return county.rhymes[asked] - 2;
            }
            count = asked;
            return held(run(text, text.bringsFrom, text.bringsTo), -MAX_BRINGS, MAX_BRINGS);
        }

        private int run(Text text, int from, int to) {
            int behind = Math.min(to, Math.min(text.ops.length, text.args.length));
            int top = -1;
            int at = Math.max(0, from);
            while (at < behind) {
                int op = text.ops[at];
                int arg = text.args[at];
                at++;
                if (op == WORD_ELSE) {
                    at = Math.max(at, arg);
                } else if (op == WORD_THEN && top >= 0) {
                    at = pile[top] == 0 ? Math.max(at, arg) : at;
                    top--;
                } else if (isOfOne(op) && top >= 0) {
                    pile[top] = ofOne(op, pile[top]);
                } else if (isOfTwo(op) && top >= 1) {
                    pile[top - 1] = ofTwo(op, pile[top - 1], pile[top]);
                    top--;
                } else if (top < MAX_TAPE) {
                    top++;
                    pile[top] = op == DIGITS ? arg : named(op);
                }
            }
            return top >= 0 ? pile[top] : 0;
        }

        private static boolean isOfOne(int op) {
            return within(op, WORD_RHYME, WORD_NOT) || op == NEGATED;
        }

        private static boolean isOfTwo(int op) {
            return within(op, SIGN_BELOW, SIGN_AT_LEAST) || op == WORD_AND || op == WORD_OR;
        }

        private int named(int name) {
            switch (name) {
                case WORD_DAY:
                    return county.now.day;
                case WORD_FUND:
                    return county.now.fund;
                case WORD_LAST:
                    return county.now.count;
                case WORD_GONE:
                    return Integer.bitCount(county.now.gone);
                case WORD_NUMBER:
                    return bird;
                case WORD_ODDS:
                    return county.odds[bird];
                case WORD_PERIOD:
                    return county.periods[bird];
                case WORD_COUNT:
                    return count;
                case WORD_THING:
                    return county.rhymes[count];
                default:
                    return 0;
            }
        }

        private int ofOne(int op, int value) {
            switch (op) {
                case WORD_RHYME:
                    return isCount(value) ? county.rhymes[value] : 0;
                case WORD_CAME:
                    return county.hasBird(value) ? county.now.came[value] : 0;
                case WORD_NOT:
                    return 1 - value;
                default:
                    return -value;
            }
        }

        private static int ofTwo(int op, int left, int right) {
            switch (op) {
                case SIGN_PLUS:
                    return held(left + right, -MAX_SUM, MAX_SUM);
                case SIGN_MINUS:
                    return held(left - right, -MAX_SUM, MAX_SUM);
                case SIGN_TIMES:
                    return (int) Math.max(-MAX_SUM, Math.min(MAX_SUM, (long) left * right));
                case SIGN_OVER:
                    return right == 0 ? 0 : left / right;
                case WORD_AND:
                    return left & right;
                case WORD_OR:
                    return left | right;
                default:
                    return isSo(op, left, right) ? 1 : 0;
            }
        }

        private static boolean isSo(int op, int left, int right) {
            switch (op) {
                case SIGN_BELOW:
                    return left < right;
                case SIGN_ABOVE:
                    return left > right;
                case SIGN_SAME:
                    return left == right;
                case SIGN_UNLIKE:
                    return left != right;
                case SIGN_AT_MOST:
                    return left <= right;
                default:
                    return left >= right;
            }
        }
    }
}
