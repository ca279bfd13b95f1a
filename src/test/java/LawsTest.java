import java.util.ArrayList;
import java.util.List;

/**
 * What must hold between answers, whatever they are: what an object tells as known at an ACT, another tells to
 * which no more was told; without an ACT, another to which it was not told; and nothing gets lost on the roll.
 * No object is asked more than 512 times: there are new ones for each part.
 */
final class LawsTest {
    private static final int[] WORTHS = {
        1, 6, 12, 120, 240, 2400, 4800, 24000, 120000, 240000, 1200000, 2400000, 12000000};

    /** One that was told: a WRIT (w), COIN (c), a TALLY (t), FIRE (f) or VOID (v). */
    private record Act(char kind, int shire, int term, int amount, String text) {
    }

    private final Dice dice;
    private final List<Act> acts = new ArrayList<>();
    private final List<int[]> cuts = new ArrayList<>();
    private ChequeredCloth x = new ChequeredCloth();
    private int last;
    private int leftOut = 0;
    private int moved = 0;

    private LawsTest(long seed) {
        dice = new Dice(seed);
    }

    public static void main(String[] args) {
        int runs = args.length > 1 ? Integer.parseInt(args[1]) : 250;
        long first = args.length > 2 ? Long.parseLong(args[2]) : 1;
        int leftOut = 0;
        int moved = 0;
        for (int i = 0; i < runs; i++) {
            LawsTest run = new LawsTest(first + i);
            run.cloth();
            run.chest();
            run.court();
            leftOut += run.leftOut;
            moved += run.moved;
        }
        Check.due("an act was left out often", leftOut > runs, true);
        Check.due("a payment was moved often", moved > runs / 2, true);
        Check.close("LawsTest");
    }

    // ---- the cloth

    private int anySum() {
        return dice.in(3) ? dice.of(1000000001) : dice.of(1 << dice.of(30));
    }

    private void cloth() {
        int spread = dice.in(2) ? 100 : dice.from(1, 20);
        for (int place = 0; place < 13; place++) {
            x.put(place, dice.of(spread));
        }
        for (int i = 0; i < 12; i++) {
            ChequeredCloth before = x;
            x = new ChequeredCloth();
            for (int place = 0; place < 13; place++) {
                x.put(place, before.lies(place));
            }
            sum(anySum());
        }
    }

    private void sum(int sum) {
        plain(sum);
        steps(sum, anySum());
        long before = x.worth();
        boolean more = dice.in(2);
        int borrowed = borrowed(sum);
        int answer = more ? x.lay(sum) : x.draw(sum);
        Check.due("worth() behind " + (more ? "lay(" : "draw(") + sum + ") of " + before,
                x.worth(), answer < 0 ? before : more ? before + sum : before - sum);
        for (int place = 0; place < 12 && more && answer >= 0; place++) {
            Check.due("changed as often as can be", x.lies(place) < WORTHS[place + 1] / WORTHS[place], true);
        }
        if (!more) {
            Check.due("draw(" + sum + ") of " + before, answer, borrowed);
        }
    }

    /** How many are BROKEN to draw a sum, as one takes numbers from numbers: a place borrows one, if it has too few. */
    private int borrowed(int sum) {
        int all = 0;
        int borrows = 0;
        for (int place = 0; place < 13; place++) {
            borrows = x.lies(place) < x.plain(sum, place) + borrows ? 1 : 0;
            all += borrows;
        }
        return borrows == 0 ? all : -1;
    }

    private void plain(int sum) {
        long all = 0;
        for (int place = 0; place < 13; place++) {
            int count = x.plain(sum, place);
            all += (long) count * WORTHS[place];
            Check.due("as many as can be in the next place",
                    place == 12 || count < WORTHS[place + 1] / WORTHS[place], true);
        }
        Check.due("worth of the plain of " + sum, all, sum);
    }

    /** To another sum it is at most as far as by way of a third one; one counter is at most one step. */
    private void steps(int sum, int other) {
        int direct = x.steps(sum);
        ChequeredCloth y = new ChequeredCloth();
        for (int place = 0; place < 13; place++) {
            y.put(place, x.plain(other, place));
        }
        Check.due("steps(" + other + ") from there", y.steps(other), 0);
        Check.due("steps by way of " + other, direct <= x.steps(other) + y.steps(sum), true);
        int place = dice.of(13);
        int count = x.lies(place);
        int next = count == 99 || count > 0 && dice.in(2) ? count - 1 : count + 1;
        x.put(place, next);
        Check.due("one counter is one step", Math.abs(x.steps(sum) - direct) <= 1, true);
        x.put(place, count);
        if (place < 12 && count >= WORTHS[place + 1] / WORTHS[place] && x.lies(place + 1) < 99) {
            x.put(place, count - WORTHS[place + 1] / WORTHS[place]);
            x.put(place + 1, x.lies(place + 1) + 1);
            Check.due("one change is one step", Math.abs(x.steps(sum) - direct) <= 1, true);
            x.put(place, count);
            x.put(place + 1, x.lies(place + 1) - 1);
        }
    }

    // ---- the chest

    private void chest() {
        x = new ChequeredCloth();
        for (int i = 0; i < 40; i++) {
            int[] cut = {dice.of(2), dice.of(10), dice.of(240), dice.of(dice.in(2) ? 6 : 2)};
            if (x.cut(cut[0] == 1, cut[1], cut[2], cut[3]) > 0) {
                cuts.add(cut);
            }
        }
        int limit = dice.in(3) ? 500 : dice.from(0, 60);
        int[] wear = {dice.from(0, 20), dice.from(1, 40), limit};
        x.wear(wear[0], wear[1], wear[2]);
        cuts.add(wear);
        int[][] fits = new int[10][10];
        int[] mates = new int[10];
        int pairs = 0;
        int cost = 0;
        int taken = 0;
        for (int stock = 0; stock < 10; stock++) {
            mates[stock] = x.mate(stock);
            for (int foil = 0; foil < 10; foil++) {
                fits[stock][foil] = x.fit(stock, foil);
            }
            int foil = mates[stock];
            if (foil >= 0) {
                pairs++;
                cost += fits[stock][foil];
                Check.due("a pair fits", fits[stock][foil] >= 0 && fits[stock][foil] <= limit, true);
                Check.due("a foil is in one pair", taken >> foil & 1, 0);
                taken |= 1 << foil;
            }
        }
        Check.due("matched(0)", x.matched(0), pairs);
        Check.due("matched(1)", x.matched(1), cost);
        for (int stock = 0; stock < 10; stock++) {
            int own = mates[stock] < 0 ? limit + 1 : fits[stock][mates[stock]];
            for (int foil = 0; foil < 10; foil++) {
                boolean better = (taken >> foil & 1) == 0 && fits[stock][foil] >= 0 && fits[stock][foil] < own;
                Check.due("no free foil is better", better, false);
            }
            for (int other = 0; other < stock; other++) {
                exchange(fits, mates, limit, stock, other);
            }
        }
    }

    /** Two STOCKS that have a FOIL each: the other way round it isn't better; where it is as good, the first has the lesser. */
    private static void exchange(int[][] fits, int[] mates, int limit, int stock, int other) {
        if (mates[stock] < 0 || mates[other] < 0) {
            return;
        }
        int one = fits[stock][mates[other]];
        int two = fits[other][mates[stock]];
        int now = fits[stock][mates[stock]] + fits[other][mates[other]];
        boolean could = one >= 0 && one <= limit && two >= 0 && two <= limit;
        Check.due("no exchange is better", could && one + two < now, false);
        Check.due("no exchange is as good and first", could && one + two == now && mates[stock] < mates[other], false);
    }

    // ---- the court

    private Act anyAct() {
        int shire = dice.of(3);
        int term = dice.of(6);
        switch (dice.of(9)) {
            case 0:
            case 1:
                return new Act('w', 0, dice.in(2) ? 0 : term, 0, Texts.writ(dice, 5));
            case 2:
            case 3:
            case 4:
                return new Act('c', shire, term, dice.from(1, dice.in(3) ? 1000000 : 2000), "");
            case 5:
            case 6:
                return new Act('t', shire, term, dice.of(10), "");
            case 7:
                return new Act('f', 0, term, dice.of(121), "");
            default:
                return new Act('v', 0, 0, dice.from(1, Math.max(1, acts.size())), "");
        }
    }

    private static int tell(ChequeredCloth court, Act act) {
        switch (act.kind) {
            case 'w':
                court.end(0);
                return Texts.writ(court, act.term, act.text);
            case 'c':
                return court.pays(act.shire, act.term, act.amount);
            case 't':
                return court.tally(act.shire, act.term, act.amount);
            case 'f':
                return court.fire(act.term, act.amount);
            default:
                return court.annul(act.amount);
        }
    }

    private void court() {
        for (int i = 0; i < 24; i++) {
            Act act = anyAct();
            if (tell(x, act) > 0) {
                acts.add(act);
            }
        }
        last = acts.size();
        Check.due("all(0)", x.all(0), last);
        for (int at = dice.of(3); at <= last; at += dice.from(1, 5)) {
            x = other(last, 0, 0);
            x.as(at);
            same(other(at, 0, 0), "as known at " + at);
            slips(at);
            x = other(last, 0, 0);
            x.as(at);
            lost();
        }
        x.as(-1);
        same(other(last, 0, 0), "as known at the last one");
        x = other(last, 0, 0);
        since();
    }

    /** Another court that has the same tallies, to which the first ACTS were told; one not so, or in another TERM. */
    private ChequeredCloth other(int count, int without, int term) {
        ChequeredCloth y = new ChequeredCloth();
        for (int[] c : cuts) {
            Check.due("told again", c.length == 3 ? y.wear(c[0], c[1], c[2]) : y.cut(c[0] == 1, c[1], c[2], c[3]) > 0, true);
        }
        for (int i = 1; i <= count; i++) {
            Act a = acts.get(i - 1);
            if (i != without) {
                tell(y, a);
            } else if (term >= 0) {
                tell(y, new Act(a.kind, a.shire, term, a.amount, a.text));
            } else {
                // of no use to SHIRES 0 .. 3, but the next ones keep their numbers, which VOIDS tell
                y.pays(7, 39, 1);
            }
        }
        return y;
    }

    private void same(ChequeredCloth y, String when) {
        for (int i = 0; i < 4; i++) {
            int shire = dice.of(4);
            int term = dice.of(dice.in(3) ? 40 : 8);
            for (int what = 0; what < 7; what++) {
                Check.due(when + ": roll(" + shire + ", " + term + ", " + what + ")",
                        x.roll(shire, term, what), y.roll(shire, term, what));
            }
            Check.due(when + ": force(" + term + ")", x.force(term), y.force(term));
            Check.due(when + ": owed(" + term + ")", x.owed(term), y.owed(term));
        }
    }

    /** Debt and what is put off grow by farms alone, and shrink by what is told to go off. */
    private void lost() {
        int shire = dice.of(4);
        long before = 0;
        for (int term = 0; term < 24; term++) {
            long[] e = new long[7];
            for (int what = 0; what < 7; what++) {
                e[what] = x.roll(shire, term, what);
            }
            Check.due("nothing is lost in term " + term, e[0] + e[1], before + e[2] - e[3] - e[4] - e[5]);
            Check.due("quit in term " + term, e[6], e[0] <= 0 && e[1] == 0 ? 1 : 0);
            before = e[0] + e[1];
        }
    }

    /** What is asked of a slip is what other courts tell: without an ACT, or with a PAYMENT in another TERM. */
    private void slips(int at) {
        if (at == 0) {
            return;
        }
        int act = dice.from(1, at);
        Act a = acts.get(act - 1);
        boolean pays = a.kind == 'c' || a.kind == 't';
        int shire = pays ? a.shire : dice.of(3);
        int term = dice.of(9);
        int to = pays && dice.of(3) > 0 ? dice.of(term + 1) : -1;
        if (a.kind == 'v') {
            return;
        }
        x.as(at);
        long told = debt(other(at, act, to), shire, term);
        int answer = x.slip(shire, term, told);
        String call = "as(" + at + "), slip(" + shire + ", " + term + ", " + told + ") = " + answer;
        if (answer == 0) {
            Check.due(call, x.roll(shire, term, 0), told);
        } else if (answer == -1) {
            Check.due(call + " though act " + act + " was not known", annulled(act, at), true);
        } else if (x.moved() < 0) {
            leftOut++;
            Check.due(call + ", left out", debt(other(at, answer, -1), shire, term), told);
            Check.due(call + ", differs", x.roll(shire, term, 0) != told, true);
        } else {
            moved++;
            Check.due(call + ", moved to " + x.moved(), debt(other(at, answer, x.moved()), shire, term), told);
            Check.due(call + ", the first of the first", answer < act || answer == act && x.moved() <= to
                    || annulled(act, at), true);
            Check.due(call + ", no other act could be left out", to >= 0, true);
        }
    }

    private static long debt(ChequeredCloth y, int shire, int term) {
        return y.roll(shire, term, 0);
    }

    private boolean annulled(int act, int at) {
        for (int i = 0; i < at; i++) {
            if (acts.get(i).kind == 'v' && acts.get(i).amount == act) {
                return true;
            }
        }
        return false;
    }

    private void since() {
        int shire = dice.of(3);
        int term = dice.of(8);
        int first = x.since(shire, term);
        long debt = x.roll(shire, term, 0);
        for (int at = last; at >= first; at--) {
            x.as(at);
            Check.due("since(" + shire + ", " + term + ") is " + first + ", as known at " + at, x.roll(shire, term, 0), debt);
        }
        if (first > 0) {
            x.as(first - 1);
            Check.due("since(" + shire + ", " + term + ") ahead of " + first, x.roll(shire, term, 0) != debt, true);
        }
        x.as(-1);
    }
}
