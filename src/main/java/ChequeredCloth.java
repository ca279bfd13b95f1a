import java.util.Arrays;

/** A court of sums on a chequered cloth: counters, tallies, writs, payments and the roll of debts. */
public final class ChequeredCloth {
    public static final int NONE = -1;

    private static final int TERMS = 40;
    private static final int SHIRES = 8;
    private static final int STICKS = 10;
    private static final int MOST_ACTS = 200;
    private static final long NO_ROLL = -2000000000000L;

    private final Counters counters;
    private final Chest chest;
    private final Reader reader;
    private final Acts acts;
    private final Audit audit;
    private int knownAt = NONE;

    public ChequeredCloth() {
        counters = new Counters();
        chest = new Chest();
        reader = new Reader();
        acts = new Acts();
        audit = new Audit(acts, chest);
    }

    public int feed(int a, int b, int c, int d, int e) {
        if (!reader.hasRoom()) {
            return NONE;
        }
        reader.append(a);
        reader.append(b);
        reader.append(c);
        reader.append(d);
        return reader.append(e);
    }

    public boolean end(int n) {
        return reader.shorten(n);
    }

    public boolean put(int place, int n) {
        return counters.set(place, n);
    }

    public int lies(int place) {
        return counters.countAt(place);
    }

    public long worth() {
        return counters.total();
    }

    public int plain(int sum, int place) {
        return counters.plainAt(sum, place);
    }

    public int lay(int sum) {
        return counters.add(sum);
    }

    public int draw(int sum) {
        return counters.take(sum);
    }

    public int steps(int sum) {
        return counters.fewestSteps(sum);
    }

    public int cut(boolean foil, int k, int place, int worth) {
        return isStick(k) ? chest.addCut(half(foil, k), place, worth) : NONE;
    }

    public boolean burn(boolean foil, int k) {
        return isStick(k) && chest.clear(half(foil, k));
    }

    public int sum(boolean foil, int k) {
        return isStick(k) ? chest.worthOf(half(foil, k)) : NONE;
    }

    public boolean wear(int grain, int lost, int limit) {
        return chest.setWear(grain, lost, limit);
    }

    public int fit(int stock, int foil) {
        return isStick(stock) && isStick(foil) ? chest.fitOf(stock, foil) : NONE;
    }

    public int mate(int stock) {
        return isStick(stock) ? chest.mateOf(stock) : NONE;
    }

    public int matched(int what) {
        return what == 0 ? chest.pairsMatched() : what == 1 ? chest.fitMatched() : NONE;
    }

    public int writ(int term) {
        if (!isTerm(term) || acts.isFull()) {
            reader.wipe();
            return -2;
        }
        Writ told = reader.read();
        return told == null ? NONE : acts.addWrit(term, told);
    }

    public int fault(int what) {
        return what == 0 ? reader.faultFound() : what == 1 ? reader.faultPlace() : NONE;
    }

    public int force(int term) {
        return isTerm(term) ? audit.statementsIn(term, presentAct()) : NONE;
    }

    public int pays(int shire, int term, int pence) {
        boolean can = isShire(shire) && isTerm(term) && pence >= 1 && pence <= 1000000;
        return can ? acts.addPayment(Acts.COIN, shire, term, pence) : NONE;
    }

    public int tally(int shire, int term, int stock) {
        boolean can = isShire(shire) && isTerm(term) && isStick(stock);
        return can ? acts.addPayment(Acts.TALLY, shire, term, stock) : NONE;
    }

    public int fire(int term, int lost) {
        boolean can = isTerm(term) && lost >= 0 && lost <= 120;
        return can ? acts.add(Acts.FIRE, NONE, term, lost) : NONE;
    }

    public int annul(int act) {
        return acts.addVoid(act);
    }

    public boolean as(int act) {
        if (act < NONE || act > acts.size()) {
            return false;
        }
        knownAt = act;
        return true;
    }

    public long roll(int shire, int term, int what) {
        if (!isShire(shire) || !isTerm(term)) {
            return NO_ROLL;
        }
        return audit.rollOf(shire, term, presentAct()).entry(term, what);
    }

    public long owed(int term) {
        return isTerm(term) ? audit.debtsAboveNothing(term, presentAct()) : NONE;
    }

    public int slip(int shire, int term, long told) {
        if (!isShire(shire) || !isTerm(term)) {
            return -2;
        }
        Roll present = audit.rollOf(shire, term, presentAct());
        audit.forgetMoved();
        if (present.entry(term, Roll.DEBT) == told) {
            return 0;
        }
        int leftOut = audit.findLeftOut(present, term, told);
        return leftOut != NONE ? leftOut : audit.findMoved(present, term, told);
    }

    public int moved() {
        return audit.movedTo();
    }

    public int since(int shire, int term) {
        if (!isShire(shire) || !isTerm(term)) {
            return NONE;
        }
        return audit.sameSince(audit.rollOf(shire, term, acts.size()), term);
    }

    public int all(int what) {
        switch (what) {
            case 0:
                return acts.size();
            case 1:
                return presentAct();
            case 2:
                return chest.halvesFrom(0);
            case 3:
                return chest.halvesFrom(STICKS);
            default:
                return NONE;
        }
    }

    private int presentAct() {
        return knownAt == NONE ? acts.size() : knownAt;
    }

    private static boolean isTerm(int term) {
        return term >= 0 && term < TERMS;
    }

    private static boolean isShire(int shire) {
        return shire >= 0 && shire < SHIRES;
    }

    private static boolean isStick(int k) {
        return k >= 0 && k < STICKS;
    }

    private static int half(boolean foil, int k) {
        return foil ? STICKS + k : k;
    }

    /** The COUNTERS in the PLACES of the cloth. */
    private static final class Counters {
        private static final int PLACES = 13;
        private static final int MOST = 99;
        private static final int MOST_SUM = 1000000000;
        private static final int FAR = 1000000000;
        private static final int[] WORTHS = {
            1, 6, 12, 120, 240, 2400, 4800, 24000, 120000, 240000, 1200000, 2400000, 12000000};
        private static final int[] RATIOS = {6, 2, 10, 2, 10, 2, 5, 5, 2, 5, 2, 5};

        private final int[] lying = new int[PLACES];
        private final int[] trial = new int[PLACES];
        private final int[] due = new int[PLACES];

        boolean set(int place, int n) {
            if (!isPlace(place) || n < 0 || n > MOST) {
                return false;
            }
            lying[place] = n;
            return true;
        }

        int countAt(int place) {
            return isPlace(place) ? lying[place] : NONE;
        }

        long total() {
            long pence = 0;
            for (int place = 0; place < PLACES; place++) {
                pence += (long) lying[place] * WORTHS[place];
            }
            return pence;
        }

        int plainAt(int sum, int place) {
            return isPlace(place) && tellPlain(sum) ? due[place] : NONE;
        }

        int add(int sum) {
            if (!tellPlain(sum)) {
                return NONE;
            }
            for (int place = 0; place < PLACES; place++) {
                trial[place] = lying[place] + due[place];
                if (trial[place] > MOST) {
                    return NONE;
                }
            }
            int changed = changeUpward();
            if (changed != NONE) {
                System.arraycopy(trial, 0, lying, 0, PLACES);
            }
            return changed;
        }

        int take(int sum) {
            if (!tellPlain(sum)) {
                return NONE;
            }
            System.arraycopy(lying, 0, trial, 0, PLACES);
            int broken = 0;
            for (int place = 0; place < PLACES; place++) {
                for (int i = 0; i < MOST && trial[place] < due[place]; i++) {
                    broken += breakInto(place);
                }
                if (trial[place] < due[place]) {
                    return NONE;
                }
                trial[place] -= due[place];
            }
            System.arraycopy(trial, 0, lying, 0, PLACES);
            return broken;
        }

        /*
         * Of CHANGES at a place two counts alone can be best: those that leave the least to put
         * or to take there, from below and from above, for any further one costs at least as
         * much as it could save. Over all that comes from below these are two neighbours.
         */
        int fewestSteps(int sum) {
            if (!tellPlain(sum)) {
                return NONE;
            }
            int low = 0;
            int withLow = 0;
            int withNext = FAR;
            for (int place = 0; place < PLACES - 1; place++) {
                int lack = due[place] - lying[place];
                int up = Math.floorDiv(low - lack, RATIOS[place]);
                int here = lack + RATIOS[place] * up - low;
                int there = here + RATIOS[place];
                int best = cheaper(withLow, here, withNext, here - 1) + Math.abs(up);
                withNext = cheaper(withLow, there, withNext, there - 1) + Math.abs(up + 1);
                withLow = best;
                low = up;
            }
            int lack = due[PLACES - 1] - lying[PLACES - 1];
            return cheaper(withLow, lack - low, withNext, lack - low - 1);
        }

        private static int cheaper(int one, int lackOfOne, int other, int lackOfOther) {
            return Math.min(one + Math.abs(lackOfOne), other + Math.abs(lackOfOther));
        }

        private static boolean isPlace(int place) {
            return place >= 0 && place < PLACES;
        }

        private boolean tellPlain(int sum) {
            if (sum < 0 || sum > MOST_SUM) {
                return false;
            }
            int rest = sum;
            for (int place = PLACES - 1; place >= 0; place--) {
                due[place] = rest / WORTHS[place];
                rest = rest % WORTHS[place];
                if (due[place] > MOST) {
                    return false;
                }
            }
            return true;
        }

        private int changeUpward() {
            int changed = 0;
            for (int place = 0; place < PLACES - 1; place++) {
                int times = trial[place] / RATIOS[place];
                trial[place] -= times * RATIOS[place];
                trial[place + 1] += times;
                changed += times;
                if (trial[place + 1] > MOST) {
                    return NONE;
                }
            }
            return changed;
        }

        private int breakInto(int place) {
            int from = place + 1;
            while (from < PLACES && trial[from] == 0) {
                from++;
            }
            if (from >= PLACES) {
                return 0;
            }
            for (int above = from; above > place; above--) {
                trial[above]--;
                trial[above - 1] += RATIOS[above - 1];
            }
            return from - place;
        }
    }

    /** The HALVES: STOCKS are 0 .. 9 here, FOILS 10 .. 19. */
    private static final class Chest {
        private static final int HALVES = 2 * STICKS;
        private static final int MOST_CUTS = 12;
        private static final int LENGTH = 240;
        private static final int UNKNOWN = -2;
        private static final int[] WORTHS = {1, 12, 240, 4800, 24000, 240000};

        private final int[] places = new int[HALVES * MOST_CUTS];
        private final int[] worths = new int[HALVES * MOST_CUTS];
        private final int[] sizes = new int[HALVES];
        private final int[] fits = new int[STICKS * STICKS];
        private final int[] above = new int[MOST_CUTS + 1];
        private final int[] row = new int[MOST_CUTS + 1];
        private final int[] goodWorths = new int[STICKS];
        private final Matcher matcher = new Matcher();
        private int grain = 3;
        private int lost = 8;
        private int limit = 20;
        private boolean isMatched;
        private int changes;

        Chest() {
            Arrays.fill(fits, UNKNOWN);
        }

        int addCut(int half, int place, int worth) {
            if (!isHalf(half) || place < 0 || place > LENGTH || worth < 0 || worth >= WORTHS.length) {
                return NONE;
            }
            int size = sizes[half];
            int end = half * MOST_CUTS + size;
            if (size >= MOST_CUTS || size > 0 && places[end - 1] >= place) {
                return NONE;
            }
            places[end] = place;
            worths[end] = worth;
            sizes[half] = size + 1;
            forget(half);
            return size + 1;
        }

        boolean clear(int half) {
            if (!isThere(half)) {
                return false;
            }
            sizes[half] = 0;
            forget(half);
            return true;
        }

        int worthOf(int half) {
            if (!isThere(half)) {
                return NONE;
            }
            int pence = 0;
            for (int i = 0; i < sizes[half]; i++) {
                pence += WORTHS[worths[half * MOST_CUTS + i]];
            }
            return pence;
        }

        boolean setWear(int newGrain, int newLost, int newLimit) {
            if (newGrain < 0 || newGrain > 20 || newLost < 1 || newLost > 100
                    || newLimit < 0 || newLimit > 500) {
                return false;
            }
            if (newGrain != grain || newLost != lost) {
                Arrays.fill(fits, UNKNOWN);
            }
            grain = newGrain;
            lost = newLost;
            limit = newLimit;
            isMatched = false;
            changes++;
            return true;
        }

        int fitOf(int stock, int foil) {
            if (!isStick(stock) || !isStick(foil)
                    || !isThere(stock) || !isThere(STICKS + foil)) {
                return NONE;
            }
            int pair = stock * STICKS + foil;
            if (fits[pair] == UNKNOWN) {
                fits[pair] = leastCost(stock, STICKS + foil);
            }
            return fits[pair];
        }

        int mateOf(int stock) {
            matchAll();
            return matcher.foilOf(stock);
        }

        int pairsMatched() {
            matchAll();
            int pairs = 0;
            for (int stock = 0; stock < STICKS; stock++) {
                pairs += matcher.foilOf(stock) != NONE ? 1 : 0;
            }
            return pairs;
        }

        int fitMatched() {
            matchAll();
            int cost = 0;
            for (int stock = 0; stock < STICKS; stock++) {
                int foil = matcher.foilOf(stock);
                cost += foil != NONE ? fitOf(stock, foil) : 0;
            }
            return cost;
        }

        int halvesFrom(int first) {
            int there = 0;
            for (int half = first; half < first + STICKS; half++) {
                there += isThere(half) ? 1 : 0;
            }
            return there;
        }

        int changeCount() {
            return changes;
        }

        private static boolean isHalf(int half) {
            return half >= 0 && half < HALVES;
        }

        private boolean isThere(int half) {
            return isHalf(half) && sizes[half] > 0;
        }

        private void forget(int half) {
            for (int i = 0; i < STICKS; i++) {
                fits[half < STICKS ? half * STICKS + i : i * STICKS + half - STICKS] = UNKNOWN;
            }
            isMatched = false;
            changes++;
        }

        private int leastCost(int stock, int foil) {
            for (int j = 0; j <= sizes[foil]; j++) {
                row[j] = j * lost;
            }
            for (int i = 0; i < sizes[stock]; i++) {
                System.arraycopy(row, 0, above, 0, row.length);
                row[0] = above[0] + lost;
                for (int j = 0; j < sizes[foil]; j++) {
                    int alone = Math.min(above[j + 1], row[j]) + lost;
                    int together = pairCost(stock * MOST_CUTS + i, foil * MOST_CUTS + j);
                    row[j + 1] = together == NONE ? alone : Math.min(alone, above[j] + together);
                }
            }
            return row[sizes[foil]];
        }

        private int pairCost(int cut, int other) {
            int apart = Math.abs(places[cut] - places[other]);
            return worths[cut] == worths[other] && apart <= grain ? apart : NONE;
        }

        /** What a TALLY is worth, if it was GOOD when all were last matched. */
        int goodWorth(int stock) {
            return isStick(stock) ? goodWorths[stock] : 0;
        }

        void matchAll() {
            if (isMatched) {
                return;
            }
            matcher.begin();
            for (int stock = 0; stock < STICKS; stock++) {
                for (int foil = 0; foil < STICKS; foil++) {
                    int cost = fitOf(stock, foil);
                    if (cost != NONE && cost <= limit) {
                        matcher.allow(stock, foil, cost);
                    }
                }
            }
            matcher.solve();
            for (int stock = 0; stock < STICKS; stock++) {
                goodWorths[stock] = matcher.foilOf(stock) == NONE ? 0 : worthOf(stock);
            }
            isMatched = true;
        }
    }

    /**
     * The best of all matchings by the Hungarian method. One number tells of a pair that it is a
     * pair, its FIT, and which FOIL the STOCK has, each outweighing all that come behind it.
     */
    private static final class Matcher {
        private static final int ROWS = STICKS;
        private static final int COLUMNS = 2 * STICKS;
        private static final long FAR = 1L << 60;
        private static final long FIT_WEIGHT = 25937424601L;
        private static final long PAIR_WEIGHT = 5002L * FIT_WEIGHT;

        private final long[][] costs = new long[ROWS + 1][COLUMNS + 1];
        private final long[] rowPrices = new long[ROWS + 1];
        private final long[] columnPrices = new long[COLUMNS + 1];
        private final long[] gaps = new long[COLUMNS + 1];
        private final int[] rowOf = new int[COLUMNS + 1];
        private final int[] cameFrom = new int[COLUMNS + 1];
        private final boolean[] isReached = new boolean[COLUMNS + 1];
        private final int[] mates = new int[ROWS];

        /** All costs are 0, as of a STOCK that stays without a FOIL; half the columns keep that. */
        void begin() {
            for (int i = 0; i <= ROWS; i++) {
                Arrays.fill(costs[i], 0L);
            }
            Arrays.fill(rowPrices, 0L);
            Arrays.fill(columnPrices, 0L);
            Arrays.fill(rowOf, 0);
        }

        void allow(int stock, int foil, int fit) {
            if (!isStick(stock) || !isStick(foil)) {
                return;
            }
            long rank = foil - STICKS;
            for (int i = stock + 1; i < STICKS; i++) {
                rank *= STICKS + 1;
            }
            costs[stock + 1][foil + 1] = fit * FIT_WEIGHT - PAIR_WEIGHT + rank;
        }

        void solve() {
            for (int i = 1; i <= ROWS; i++) {
                turnOver(freeColumnFor(i));
            }
            Arrays.fill(mates, NONE);
            for (int column = 1; column <= STICKS; column++) {
                int i = rowOf[column];
                if (i > 0 && costs[i][column] != 0) {
                    mates[i - 1] = column - 1;
                }
            }
        }

        int foilOf(int stock) {
            return isStick(stock) ? mates[stock] : NONE;
        }

        private int freeColumnFor(int newRow) {
            Arrays.fill(gaps, FAR);
            for (int column = 0; column <= COLUMNS; column++) {
                isReached[column] = false;
            }
            rowOf[0] = newRow;
            int column = 0;
            for (int i = 0; i <= COLUMNS && rowOf[column] != 0; i++) {
                isReached[column] = true;
                int nearest = lookFrom(column);
                shiftPrices(gaps[nearest]);
                column = nearest;
            }
            return column;
        }

        private int lookFrom(int column) {
            int i = rowOf[column];
            int nearest = 0;
            long least = FAR;
            for (int other = 1; other <= COLUMNS; other++) {
                if (!isReached[other]) {
                    long gap = costs[i][other] - rowPrices[i] - columnPrices[other];
                    if (gap < gaps[other]) {
                        gaps[other] = gap;
                        cameFrom[other] = column;
                    }
                    if (gaps[other] < least) {
                        least = gaps[other];
                        nearest = other;
                    }
                }
            }
            return nearest;
        }

        private void shiftPrices(long gap) {
            for (int column = 0; column <= COLUMNS; column++) {
                if (isReached[column]) {
                    rowPrices[rowOf[column]] += gap;
                    columnPrices[column] -= gap;
                } else {
                    gaps[column] -= gap;
                }
            }
        }

        private void turnOver(int freeColumn) {
            int column = freeColumn;
            for (int i = 0; i <= COLUMNS && column != 0; i++) {
                int before = cameFrom[column];
                rowOf[column] = rowOf[before];
                column = before;
            }
        }
    }

    /** A STATEMENT: its SUM stands in the WRIT's code in from .. test, its TEST in test .. end. */
    private static final class Statement {
        private static final int FARM = 1;
        private static final int ALLOW = 2;
        private static final int PARDON = 3;
        private static final int SPLIT = 4;

        private int kind;
        private boolean blanched;
        private int first;
        private int second;
        private int from;
        private int test;
        private int end;
    }

    /** A WRIT without FAULT. */
    private static final class Writ {
        private final Statement[] statements;
        private final int[] code;

        Writ(Statement[] told, int count, int[] toldCode, int size) {
            statements = new Statement[count];
            System.arraycopy(told, 0, statements, 0, count);
            code = Arrays.copyOf(toldCode, size);
        }
    }

    /** The tape, and the reader of what stands on it. */
    private static final class Reader {
        private static final int MOST_BYTES = 600;
        private static final int MOST_FED = 20;
        private static final int MOST_STATEMENTS = 24;
        private static final int MOST_OPEN = 6;
        private static final int MOST_DIGITS = 5;
        private static final int MOST_NUMBER = 99999;

        private static final int NO_WAY = 1;
        private static final int BAD_NUMBER = 2;
        private static final int TOO_DEEP = 3;
        private static final int TOO_MANY = 4;

        private static final int END = 0;
        private static final int WORD = 1;
        private static final int NUMBER = 2;
        private static final int MARK = 3;
        private static final int GLUED = 4;

        private final char[] tape = new char[MOST_BYTES];
        private final int[] code = new int[MOST_BYTES];
        private final Statement[] statements = new Statement[MOST_STATEMENTS];
        private int length;
        private int size;
        private int count;
        private int kind;
        private int at;
        private int stop;
        private int open;
        private int fault;
        private int faultAt = NONE;

        boolean hasRoom() {
            return length + MOST_FED <= MOST_BYTES;
        }

        int append(int bytes) {
            for (int shift = 24; shift >= 0 && length < MOST_BYTES; shift -= 8) {
                tape[length] = (char) (bytes >>> shift & 255);
                length++;
            }
            return length;
        }

        boolean shorten(int n) {
            if (n < 0 || n > length) {
                return false;
            }
            length = n;
            return true;
        }

        /** The tape goes, and nothing is read. */
        void wipe() {
            length = 0;
        }

        int faultFound() {
            return fault;
        }

        int faultPlace() {
            return faultAt;
        }

        /** The WRIT on the tape, which goes; null with a FAULT. */
        Writ read() {
            fault = 0;
            faultAt = NONE;
            size = 0;
            count = 0;
            open = 0;
            kind = MARK;
            stop = 0;
            next();
            boolean good = true;
            while (good && kind != END && count < MOST_STATEMENTS) {
                good = readStatement();
                count++;
            }
            if (good && kind != END) {
                good = fail(TOO_MANY, at);
            }
            wipe();
            return good ? new Writ(statements, count, code, size) : null;
        }

        private boolean readStatement() {
            Statement told = new Statement();
            statements[count] = told;
            told.from = size;
            boolean good = readDuty(told);
            told.test = size;
            good = good && needWord("for") && readTest();
            told.end = size;
            return good && needMark(';');
        }

        private boolean readDuty(Statement told) {
            if (takeWord("farm")) {
                told.kind = Statement.FARM;
                boolean good = readSum();
                told.blanched = good && takeWord("blanched");
                return good;
            }
            if (takeWord("allow")) {
                told.kind = Statement.ALLOW;
                return readSum();
            }
            if (takeWord("pardon")) {
                told.kind = Statement.PARDON;
                told.first = readNumber(1, 999);
                boolean good = told.first != NONE && needWord("in");
                told.second = good ? readNumber(told.first, 999) : NONE;
                return told.second != NONE;
            }
            if (takeWord("split")) {
                told.kind = Statement.SPLIT;
                told.first = readNumber(2, 20);
                return told.first != NONE;
            }
            return fail(NO_WAY, at);
        }

        private boolean readTest() {
            boolean good = readBoth();
            for (int i = 0; i < MOST_BYTES && good && takeWord("or"); i++) {
                good = readBoth() && emit(Judge.OR);
            }
            return good;
        }

        private boolean readBoth() {
            boolean good = readFact();
            for (int i = 0; i < MOST_BYTES && good && takeWord("and"); i++) {
                good = readFact() && emit(Judge.AND);
            }
            return good;
        }

        private boolean readFact() {
            int from = at;
            if (takeWord("not")) {
                return opens(from) && readFact() && emit(Judge.NOT) && closes();
            }
            if (takeMark('[')) {
                return opens(from) && readTest() && needMark(']') && closes();
            }
            if (takeWord("all")) {
                return emit(1);
            }
            if (takeWord("shire")) {
                int shire = readNumber(0, SHIRES - 1);
                return shire != NONE && emit(shire) && emit(Judge.SHIRE);
            }
            if (!readSum()) {
                return false;
            }
            int sign = takeMark('<') ? Judge.LESS
                    : takeMark('>') ? Judge.MORE
                    : takeMark('=') ? Judge.LIKE : 0;
            return sign == 0 ? fail(NO_WAY, at) : readSum() && emit(sign);
        }

        private boolean readSum() {
            boolean good = readProduct();
            for (int i = 0; i < MOST_BYTES && good; i++) {
                int sign = takeMark('+') ? Judge.PLUS : takeMark('-') ? Judge.MINUS : 0;
                if (sign == 0) {
                    return true;
                }
                good = readProduct() && emit(sign);
            }
            return good;
        }

        private boolean readProduct() {
            boolean good = readPart();
            for (int i = 0; i < MOST_BYTES && good; i++) {
                int sign = takeMark('*') ? Judge.TIMES : takeMark('/') ? Judge.OVER : 0;
                if (sign == 0) {
                    return true;
                }
                good = readPart() && emit(sign);
            }
            return good;
        }

        private boolean readPart() {
            int from = at;
            if (kind == NUMBER) {
                int number = readNumber(0, MOST_NUMBER);
                return number != NONE && emit(number * takeUnit());
            }
            if (takeMark('(')) {
                return opens(from) && readSum() && needMark(')') && closes();
            }
            if (takeWord("min")) {
                return readTwo() && emit(Judge.MIN);
            }
            if (takeWord("max")) {
                return readTwo() && emit(Judge.MAX);
            }
            int name = takeWord("term") ? Judge.TERM
                    : takeWord("year") ? Judge.YEAR
                    : takeWord("debt") ? Judge.DEBT
                    : takeWord("paid") ? Judge.PAID : 0;
            return name == 0 ? fail(NO_WAY, at) : emit(name);
        }

        private boolean readTwo() {
            int from = at;
            return needMark('(') && opens(from) && readSum()
                    && needMark(',') && readSum() && needMark(')') && closes();
        }

        private int takeUnit() {
            if (takeWord("pounds")) {
                return 240;
            }
            if (takeWord("shillings")) {
                return 12;
            }
            takeWord("pence");
            return 1;
        }

        private int readNumber(int least, int most) {
            if (kind != NUMBER) {
                fail(NO_WAY, at);
                return NONE;
            }
            if (stop - at > MOST_DIGITS) {
                fail(NO_WAY, at + MOST_DIGITS);
                return NONE;
            }
            int number = 0;
            for (int i = at; i < stop; i++) {
                number = number * 10 + tape[i] - '0';
            }
            if (number < least || number > most) {
                fail(BAD_NUMBER, at);
                return NONE;
            }
            next();
            return number;
        }

        private boolean opens(int place) {
            if (open >= MOST_OPEN) {
                return fail(TOO_DEEP, place);
            }
            open++;
            return true;
        }

        private boolean closes() {
            open--;
            return true;
        }

        private boolean emit(int sign) {
            if (size >= MOST_BYTES) {
                return fail(NO_WAY, at);
            }
            code[size] = sign;
            size++;
            return true;
        }

        private boolean needWord(String word) {
            return takeWord(word) || fail(NO_WAY, at);
        }

        private boolean needMark(char mark) {
            return takeMark(mark) || fail(NO_WAY, at);
        }

        private boolean fail(int which, int place) {
            fault = which;
            faultAt = place;
            return false;
        }

        private boolean takeMark(char mark) {
            if (kind != MARK || tape[at] != mark) {
                return false;
            }
            next();
            return true;
        }

        private boolean takeWord(String word) {
            if (kind != WORD || stop - at != word.length()) {
                return false;
            }
            for (int i = 0; i < word.length(); i++) {
                if (tape[at + i] != word.charAt(i)) {
                    return false;
                }
            }
            next();
            return true;
        }

        /** Goes on to the next word, number or mark, which then stands in at .. stop. */
        private void next() {
            int before = stop;
            boolean wasOpenEnded = kind == WORD || kind == NUMBER;
            while (stop < length && (tape[stop] == ' ' || tape[stop] == '\n')) {
                stop++;
            }
            at = stop;
            if (at >= length) {
                kind = END;
                return;
            }
            while (stop < length && tape[stop] >= 'a' && tape[stop] <= 'z') {
                stop++;
            }
            kind = WORD;
            if (stop == at) {
                while (stop < length && tape[stop] >= '0' && tape[stop] <= '9') {
                    stop++;
                }
                kind = NUMBER;
            }
            if (stop == at) {
                stop++;
                kind = MARK;
            } else if (wasOpenEnded && at == before) {
                kind = GLUED;
            }
        }
    }

    /** Tells what a WRIT's code gives: numbers stand for themselves, what acts on them behind them. */
    private static final class Judge {
        private static final int TERM = -1;
        private static final int YEAR = -2;
        private static final int DEBT = -3;
        private static final int PAID = -4;
        private static final int NOT = -5;
        private static final int SHIRE = -6;
        private static final int PLUS = -7;
        private static final int MINUS = -8;
        private static final int TIMES = -9;
        private static final int OVER = -10;
        private static final int MIN = -11;
        private static final int MAX = -12;
        private static final int LESS = -13;
        private static final int MORE = -14;
        private static final int LIKE = -15;
        private static final int AND = -16;
        private static final int OR = -17;

        private static final int DEEPEST = 64;
        private static final long MOST = 1000000000L;

        private final long[] stack = new long[DEEPEST];
        private int shire;
        private int term;
        private long debt;
        private long paid;

        void setMoment(int newShire, int newTerm, long newDebt, long newPaid) {
            shire = newShire;
            term = newTerm;
            debt = Math.min(MOST, Math.max(-MOST, newDebt));
            paid = Math.min(MOST, Math.max(-MOST, newPaid));
        }

        long valueOf(int[] code, int from, int end) {
            int top = 0;
            for (int i = Math.max(from, 0); i < end && i < code.length; i++) {
                int sign = code[i];
                if (sign >= PAID) {
                    if (top < DEEPEST) {
                        stack[top] = sign >= 0 ? sign : present(sign);
                        top++;
                    }
                } else if (sign >= SHIRE) {
                    if (top > 0) {
                        stack[top - 1] = stack[top - 1] == (sign == SHIRE ? shire : 0) ? 1 : 0;
                    }
                } else if (top > 1) {
                    top--;
                    stack[top - 1] = together(sign, stack[top - 1], stack[top]);
                }
            }
            return top > 0 ? stack[0] : 0;
        }

        private long present(int sign) {
            switch (sign) {
                case TERM:
                    return term;
                case YEAR:
                    return term / 2;
                case DEBT:
                    return debt;
                default:
                    return paid;
            }
        }

        private static long together(int sign, long a, long b) {
            switch (sign) {
                case PLUS:
                    return Math.min(MOST, Math.max(-MOST, a + b));
                case MINUS:
                    return Math.min(MOST, Math.max(-MOST, a - b));
                case TIMES:
                    return Math.min(MOST, Math.max(-MOST, a * b));
                case OVER:
                    return b == 0 ? 0 : Math.floorDiv(a, b);
                case MIN:
                case AND:
                    return Math.min(a, b);
                case MAX:
                case OR:
                    return Math.max(a, b);
                case LESS:
                    return a < b ? 1 : 0;
                case MORE:
                    return a > b ? 1 : 0;
                default:
                    return a == b ? 1 : 0;
            }
        }
    }

    /** The ACTS, numbered from 1 on. */
    private static final class Acts {
        private static final int MOST_PAYMENTS = 60;
        private static final int WRIT = 1;
        private static final int COIN = 2;
        private static final int TALLY = 3;
        private static final int FIRE = 4;
        private static final int VOID = 5;

        private final int[] kinds = new int[MOST_ACTS + 1];
        /** NONE for what is of all; a VOID ACT has SHIRE and TERM of the one that was not so. */
        private final int[] shires = new int[MOST_ACTS + 1];
        private final int[] terms = new int[MOST_ACTS + 1];
        private final int[] amounts = new int[MOST_ACTS + 1];
        private final int[] voidedBy = new int[MOST_ACTS + 1];
        private final Writ[] writs = new Writ[MOST_ACTS + 1];
        private int count;
        private int payments;

        int size() {
            return count;
        }

        boolean isFull() {
            return count >= MOST_ACTS;
        }

        int add(int kind, int shire, int term, int amount) {
            if (isFull()) {
                return NONE;
            }
            count++;
            kinds[count] = kind;
            shires[count] = shire;
            terms[count] = term;
            amounts[count] = amount;
            return count;
        }

        int addWrit(int term, Writ told) {
            int act = add(WRIT, NONE, term, 0);
            if (act != NONE) {
                writs[act] = told;
            }
            return act;
        }

        int addPayment(int kind, int shire, int term, int amount) {
            if (payments >= MOST_PAYMENTS || isFull()) {
                return NONE;
            }
            payments++;
            return add(kind, shire, term, amount);
        }

        int addVoid(int act) {
            if (!isAct(act) || kinds[act] == VOID || voidedBy[act] != 0 || isFull()) {
                return NONE;
            }
            voidedBy[act] = add(VOID, shires[act], terms[act], act);
            return voidedBy[act];
        }

        boolean isAct(int act) {
            return act >= 1 && act <= count;
        }

        boolean isPayment(int act) {
            return isAct(act) && (kinds[act] == COIN || kinds[act] == TALLY);
        }

        boolean isKnown(int act, int last) {
            return isAct(act) && act <= last && kinds[act] != VOID
                    && (voidedBy[act] == 0 || voidedBy[act] > last);
        }

        /** Whether the debt of a SHIRE at the end of a TERM can be another without this ACT. */
        boolean canTouch(int act, int shire, int term) {
            return isAct(act) && terms[act] <= term && (shires[act] == NONE || shires[act] == shire);
        }
    }

    /** What is known at an ACT, laid out by TERMS; one ACT may be left out, or put elsewhere. */
    private static final class Known {
        private final Acts acts;
        private final int[] writs = new int[TERMS];
        private final int[] fires = new int[TERMS];
        private final int[] firstPayments = new int[TERMS];
        private final int[] nextPayments = new int[MOST_ACTS + 1];

        Known(Acts allActs) {
            acts = allActs;
        }

        void setAt(int last, int leftOut) {
            Arrays.fill(writs, 0);
            Arrays.fill(fires, 0);
            Arrays.fill(firstPayments, 0);
            for (int act = Math.min(last, acts.size()); act >= 1; act--) {
                if (act != leftOut && acts.isKnown(act, last)) {
                    note(act, acts.terms[act]);
                }
            }
            for (int term = 1; term < TERMS; term++) {
                writs[term] = writs[term] == 0 ? writs[term - 1] : writs[term];
            }
        }

        Writ writOf(int term) {
            return isTerm(term) ? acts.writs[writs[term]] : null;
        }

        int fireOf(int term) {
            return isTerm(term) && fires[term] > 0 ? acts.amounts[fires[term]] : 0;
        }

        int firstPayment(int term) {
            return isTerm(term) ? firstPayments[term] : 0;
        }

        int nextPayment(int act) {
            return act >= 1 && act <= MOST_ACTS ? nextPayments[act] : 0;
        }

        void addPayment(int act, int term) {
            if (acts.isPayment(act) && isTerm(term)) {
                nextPayments[act] = firstPayments[term];
                firstPayments[term] = act;
            }
        }

        void dropFirstPayment(int term) {
            if (isTerm(term)) {
                firstPayments[term] = nextPayment(firstPayments[term]);
            }
        }

        private void note(int act, int term) {
            if (!isTerm(term)) {
                return;
            }
            if (acts.kinds[act] == Acts.WRIT) {
                writs[term] = Math.max(writs[term], act);
            } else if (acts.kinds[act] == Acts.FIRE) {
                fires[term] = Math.max(fires[term], act);
            } else {
                addPayment(act, term);
            }
        }
    }

    /** THE ROLL of a SHIRE, as far as it has been told. */
    private static final class Roll {
        private static final int AHEAD = 19;
        private static final int DEBT = 0;

        private final Acts acts;
        private final Chest chest;
        private final Known known;
        private final Judge judge;
        private final long[] debts = new long[TERMS];
        private final long[] farms = new long[TERMS];
        private final long[] allowances = new long[TERMS];
        private final long[] pardons = new long[TERMS];
        private final long[] payments = new long[TERMS];
        /** At the end of each TERM: what is put off to each of the next ones. */
        private final long[] putOff = new long[TERMS * AHEAD];
        private int shire;
        private int told;
        private long debt;
        private long paid;
        private boolean blanched;

        Roll(Acts allActs, Chest theChest, Known asKnown, Judge theJudge) {
            acts = allActs;
            chest = theChest;
            known = asKnown;
            judge = theJudge;
        }

        void begin(int newShire) {
            shire = newShire;
            told = 0;
        }

        /** The TERMS ahead of one are like those of another ROLL of the same SHIRE. */
        void beginLike(Roll other, int term) {
            shire = other.shire;
            told = Math.max(0, Math.min(term, other.told));
            System.arraycopy(other.debts, 0, debts, 0, told);
            System.arraycopy(other.putOff, 0, putOff, 0, told * AHEAD);
        }

        /** What is known of a TERM is another now. */
        void goBack(int term) {
            told = Math.max(0, Math.min(term, told));
        }

        void goTo(int term) {
            for (int now = told; now <= term && now < TERMS; now++) {
                Writ writ = known.writOf(now);
                paid = 0;
                blanched = false;
                comeDue(now);
                farms[now] = reckon(writ, now, Statement.FARM);
                allowances[now] = reckon(writ, now, Statement.ALLOW);
                pardons[now] = reckon(writ, now, Statement.PARDON);
                takeIn(now);
                payments[now] = paid;
                splitDebt(writ, now);
                debts[now] = debt;
                told = now + 1;
            }
        }

        int shireOf() {
            return shire;
        }

        int nextTerm() {
            return told;
        }

        boolean isLike(Roll other, int term) {
            if (!isTerm(term) || debts[term] != other.debts[term]) {
                return false;
            }
            for (int i = term * AHEAD; i < (term + 1) * AHEAD; i++) {
                if (putOff[i] != other.putOff[i]) {
                    return false;
                }
            }
            return true;
        }

        long entry(int term, int what) {
            if (!isTerm(term)) {
                return NO_ROLL;
            }
            switch (what) {
                case DEBT:
                    return debts[term];
                case 1:
                    return putOffAfter(term);
                case 2:
                    return farms[term];
                case 3:
                    return allowances[term];
                case 4:
                    return pardons[term];
                case 5:
                    return payments[term];
                case 6:
                    return debts[term] <= 0 && putOffAfter(term) == 0 ? 1 : 0;
                default:
                    return NO_ROLL;
            }
        }

        private long putOffAfter(int term) {
            long sum = 0;
            for (int i = term * AHEAD; i < (term + 1) * AHEAD; i++) {
                sum += putOff[i];
            }
            return sum;
        }

        private void comeDue(int term) {
            int row = term * AHEAD;
            if (term == 0) {
                debt = 0;
                for (int i = 0; i < AHEAD; i++) {
                    putOff[i] = 0;
                }
            } else {
                debt = debts[term - 1] + putOff[row - AHEAD];
                System.arraycopy(putOff, row - AHEAD + 1, putOff, row, AHEAD - 1);
                putOff[row + AHEAD - 1] = 0;
            }
        }

        private long reckon(Writ writ, int term, int kind) {
            if (writ == null) {
                return 0;
            }
            long sum = 0;
            for (Statement statement : writ.statements) {
                if (statement.kind != kind) {
                    continue;
                }
                judge.setMoment(shire, term, debt, paid);
                if (judge.valueOf(writ.code, statement.test, statement.end) != 0) {
                    long part = kind == Statement.PARDON ? pardoned(statement)
                            : Math.max(0, judge.valueOf(writ.code, statement.from, statement.test));
                    sum += part;
                    debt += kind == Statement.FARM ? part : -part;
                    blanched = blanched || statement.blanched;
                }
            }
            return sum;
        }

        private long pardoned(Statement statement) {
            boolean can = debt > 0 && statement.second > 0;
            return can ? debt * statement.first / statement.second : 0;
        }

        private void takeIn(int term) {
            int act = known.firstPayment(term);
            for (int i = 0; i < MOST_ACTS && acts.isPayment(act); i++) {
                if (acts.shires[act] == shire) {
                    paid += worthOf(act, term);
                }
                act = known.nextPayment(act);
            }
            debt -= paid;
        }

        private long worthOf(int act, int term) {
            int amount = acts.amounts[act];
            if (acts.kinds[act] == Acts.TALLY) {
                return chest.goodWorth(amount);
            }
            return blanched ? amount - (long) amount * known.fireOf(term) / 240 : amount;
        }

        private void splitDebt(Writ writ, int term) {
            if (writ == null) {
                return;
            }
            for (Statement statement : writ.statements) {
                if (statement.kind != Statement.SPLIT || debt <= 0 || statement.first <= 0) {
                    continue;
                }
                judge.setMoment(shire, term, debt, paid);
                if (judge.valueOf(writ.code, statement.test, statement.end) != 0) {
                    int later = Math.min(statement.first - 1, AHEAD);
                    long part = debt / statement.first;
                    for (int i = 0; i < later; i++) {
                        putOff[term * AHEAD + i] += part;
                    }
                    debt -= part * later;
                }
            }
        }
    }

    /** THE ROLLS of all SHIRES as known, and what else could have been. */
    private static final class Audit {
        private final Acts acts;
        private final Chest chest;
        private final Known known;
        private final Known otherwise;
        private final Roll[] rolls = new Roll[SHIRES];
        private final Roll trial;
        private final Roll without;
        private int knownAt = NONE;
        private int chestAt = NONE;
        private int movedTo = NONE;

        Audit(Acts allActs, Chest theChest) {
            Judge judge = new Judge();
            acts = allActs;
            chest = theChest;
            known = new Known(allActs);
            otherwise = new Known(allActs);
            for (int shire = 0; shire < SHIRES; shire++) {
                rolls[shire] = new Roll(allActs, theChest, known, judge);
            }
            trial = new Roll(allActs, theChest, otherwise, judge);
            without = new Roll(allActs, theChest, otherwise, judge);
        }

        int statementsIn(int term, int last) {
            knowAt(last);
            Writ writ = known.writOf(term);
            return writ == null ? NONE : writ.statements.length;
        }

        /** THE ROLL of a SHIRE as known at an ACT, told up to a TERM at least. */
        Roll rollOf(int shire, int term, int last) {
            knowAt(last);
            Roll roll = rolls[isShire(shire) ? shire : 0];
            roll.goTo(term);
            return roll;
        }

        long debtsAboveNothing(int term, int last) {
            knowAt(last);
            long sum = 0;
            for (int shire = 0; shire < SHIRES; shire++) {
                rolls[shire].goTo(term);
                sum += Math.max(0, rolls[shire].entry(term, Roll.DEBT));
            }
            return sum;
        }

        /** The least ACT from which on a ROLL as known at the last one tells the same debt. */
        int sameSince(Roll roll, int term) {
            long debt = roll.entry(term, Roll.DEBT);
            trial.beginLike(roll, term + 1);
            for (int first = knownAt; first > 0; first--) {
                if (acts.canTouch(first, roll.shireOf(), term)) {
                    otherwise.setAt(first - 1, NONE);
                    trial.goBack(acts.terms[first]);
                    trial.goTo(term);
                    if (trial.entry(term, Roll.DEBT) != debt) {
                        return first;
                    }
                }
            }
            return 0;
        }

        int movedTo() {
            return movedTo;
        }

        void forgetMoved() {
            movedTo = NONE;
        }

        /** The first ACT known without which a ROLL as known tells a debt. */
        int findLeftOut(Roll roll, int term, long debt) {
            for (int act = 1; act <= knownAt; act++) {
                if (acts.isKnown(act, knownAt) && acts.canTouch(act, roll.shireOf(), term)) {
                    int from = acts.terms[act];
                    int until = acts.kinds[act] == Acts.WRIT ? term : from;
                    otherwise.setAt(knownAt, act);
                    trial.beginLike(roll, from);
                    if (tellsOtherwise(roll, until, term, debt)) {
                        return act;
                    }
                }
            }
            return NONE;
        }

        /**
         * The first PAYMENT known that, moved to another TERM, makes a ROLL as known tell a debt.
         * Behind the TERM of that debt it is as if left out: no need to try it there.
         */
        int findMoved(Roll roll, int term, long debt) {
            for (int act = 1; act <= knownAt; act++) {
                if (!acts.isPayment(act) || !acts.isKnown(act, knownAt)
                        || acts.shires[act] != roll.shireOf()) {
                    continue;
                }
                int from = acts.terms[act];
                otherwise.setAt(knownAt, act);
                without.beginLike(roll, from);
                without.goTo(term);
                for (int to = 0; to <= term; to++) {
                    otherwise.addPayment(act, to);
                    trial.beginLike(to < from ? roll : without, to);
                    if (to != from && tellsOtherwise(roll, Math.max(from, to), term, debt)) {
                        movedTo = to;
                        return act;
                    }
                    otherwise.dropFirstPayment(to);
                }
            }
            return NONE;
        }

        private void knowAt(int last) {
            if (knownAt == last && chestAt == chest.changeCount()) {
                return;
            }
            chest.matchAll();
            knownAt = last;
            chestAt = chest.changeCount();
            known.setAt(last, NONE);
            for (int shire = 0; shire < SHIRES; shire++) {
                rolls[shire].begin(shire);
            }
        }

        /**
         * Whether what is otherwise, up to a TERM, gives a debt that the ROLL as known does not
         * tell. Where all is again as it was, it stays so.
         */
        private boolean tellsOtherwise(Roll roll, int until, int term, long debt) {
            for (int now = trial.nextTerm(); now <= term; now++) {
                trial.goTo(now);
                if (now >= until && trial.isLike(roll, now)) {
                    return false;
                }
            }
            return trial.entry(term, Roll.DEBT) == debt;
        }
    }
}
