import java.util.ArrayList;
import java.util.List;

/**
 * The document once more, told as plainly as can be and without a thought of speed: texts are kept
 * as trees, every answer is reckoned anew from all the acts, and all that could be is tried.
 */
final class Model {
    static final int[] WORTHS = {
        1, 6, 12, 120, 240, 2400, 4800, 24000, 120000, 240000, 1200000, 2400000, 12000000};
    static final int[] CUTS = {1, 12, 240, 4800, 24000, 240000};

    final int[] cloth = new int[13];
    final List<List<int[]>> stocks = new ArrayList<>();
    final List<List<int[]>> foils = new ArrayList<>();
    int grain = 3;
    int lost = 8;
    int limit = 20;
    String tape = "";
    int fault = 0;
    int faultAt = -1;
    final List<Act> acts = new ArrayList<>();
    final int[] voidedBy = new int[201];
    int as = -1;
    int moved = -1;
    private String chestOf = "";
    private int[] chest;

    record Act(char kind, int shire, int term, int amount, ModelWrit writ) {
    }

    record Told(long debt, long later, long farms, long allowed, long pardoned, long paid) {
    }

    Model() {
        for (int i = 0; i < 10; i++) {
            stocks.add(new ArrayList<>());
            foils.add(new ArrayList<>());
        }
    }

    int feed(int... numbers) {
        if (tape.length() + 20 > 600) {
            return -1;
        }
        for (int n : numbers) {
            tape += "" + (char) (n >> 24 & 255) + (char) (n >> 16 & 255) + (char) (n >> 8 & 255) + (char) (n & 255);
        }
        return tape.length();
    }

    boolean end(int n) {
        if (n < 0 || n > tape.length()) {
            return false;
        }
        tape = tape.substring(0, n);
        return true;
    }

    static boolean in(int n, int least, int most) {
        return n >= least && n <= most;
    }

    // ---- the cloth

    boolean put(int place, int n) {
        if (!in(place, 0, 12) || !in(n, 0, 99)) {
            return false;
        }
        cloth[place] = n;
        return true;
    }

    int lies(int place) {
        return in(place, 0, 12) ? cloth[place] : -1;
    }

    long worth() {
        long sum = 0;
        for (int p = 0; p < 13; p++) {
            sum += 1L * cloth[p] * WORTHS[p];
        }
        return sum;
    }

    int plain(int sum, int place) {
        if (!in(sum, 0, 1000000000) || !in(place, 0, 12)) {
            return -1;
        }
        return place == 12 ? sum / WORTHS[12] : sum % WORTHS[place + 1] / WORTHS[place];
    }

    int lay(int sum) {
        int[] next = cloth.clone();
        int changed = 0;
        for (int p = 0; p < 13; p++) {
            if (plain(sum, p) < 0) {
                return -1;
            }
            next[p] += plain(sum, p);
            if (next[p] > 99) {
                return -1;
            }
        }
        for (int p = 0; p < 12; p++) {
            while (next[p] >= WORTHS[p + 1] / WORTHS[p]) {
                next[p] -= WORTHS[p + 1] / WORTHS[p];
                next[p + 1]++;
                changed++;
                if (next[p + 1] > 99) {
                    return -1;
                }
            }
        }
        System.arraycopy(next, 0, cloth, 0, 13);
        return changed;
    }

    int draw(int sum) {
        int[] next = cloth.clone();
        int broken = 0;
        for (int p = 0; p < 13; p++) {
            int due = plain(sum, p);
            if (due < 0) {
                return -1;
            }
            while (next[p] < due) {
                int before = broken;
                broken = breakOne(next, p + 1, broken);
                if (broken == before) {
                    return -1;
                }
            }
            next[p] -= due;
        }
        System.arraycopy(next, 0, cloth, 0, 13);
        return broken;
    }

    /** Breaks one of a place into the one below, one above it first where there is none. */
    private static int breakOne(int[] cloth, int place, int broken) {
        if (place > 12) {
            return broken;
        }
        int all = broken;
        if (cloth[place] == 0) {
            all = breakOne(cloth, place + 1, broken);
            if (all == broken) {
                return broken;
            }
        }
        cloth[place]--;
        cloth[place - 1] += WORTHS[place] / WORTHS[place - 1];
        return all + 1;
    }

    /** Every count of changes at every place from -150 to 150. */
    int steps(int sum) {
        if (!in(sum, 0, 1000000000)) {
            return -1;
        }
        int wide = 150;
        int[] best = new int[2 * wide + 1];
        java.util.Arrays.fill(best, 1 << 28);
        best[wide] = 0;
        for (int p = 0; p < 12; p++) {
            int ratio = WORTHS[p + 1] / WORTHS[p];
            int lack = plain(sum, p) - cloth[p];
            int[] next = new int[2 * wide + 1];
            java.util.Arrays.fill(next, 1 << 28);
            for (int up = -wide; up <= wide; up++) {
                for (int from = -wide; from <= wide; from++) {
                    next[up + wide] = Math.min(next[up + wide],
                            best[from + wide] + Math.abs(up) + Math.abs(lack + ratio * up - from));
                }
            }
            best = next;
        }
        int least = 1 << 28;
        for (int from = -wide; from <= wide; from++) {
            least = Math.min(least, best[from + wide] + Math.abs(plain(sum, 12) - cloth[12] - from));
        }
        return least;
    }

    // ---- tallies

    private List<int[]> half(boolean foil, int k) {
        return !in(k, 0, 9) ? new ArrayList<>() : foil ? foils.get(k) : stocks.get(k);
    }

    int cut(boolean foil, int k, int place, int worth) {
        List<int[]> half = half(foil, k);
        if (!in(k, 0, 9) || !in(place, 0, 240) || !in(worth, 0, 5) || half.size() == 12
                || !half.isEmpty() && half.get(half.size() - 1)[0] >= place) {
            return -1;
        }
        half.add(new int[] {place, worth});
        return half.size();
    }

    boolean burn(boolean foil, int k) {
        boolean was = !half(foil, k).isEmpty();
        half(foil, k).clear();
        return was;
    }

    int sum(boolean foil, int k) {
        int all = 0;
        for (int[] c : half(foil, k)) {
            all += CUTS[c[1]];
        }
        return half(foil, k).isEmpty() ? -1 : all;
    }

    boolean wear(int newGrain, int newLost, int newLimit) {
        if (!in(newGrain, 0, 20) || !in(newLost, 1, 100) || !in(newLimit, 0, 500)) {
            return false;
        }
        grain = newGrain;
        lost = newLost;
        limit = newLimit;
        return true;
    }

    int fit(int stock, int foil) {
        if (half(false, stock).isEmpty() || half(true, foil).isEmpty()) {
            return -1;
        }
        return fit(half(false, stock), half(true, foil), 0, 0, new int[13][13]);
    }

    /** The least cost of the cuts from i and from j on; what is known already stands in memo, plus 1. */
    private int fit(List<int[]> a, List<int[]> b, int i, int j, int[][] memo) {
        if (i == a.size() || j == b.size()) {
            return lost * (a.size() - i + b.size() - j);
        }
        if (memo[i][j] > 0) {
            return memo[i][j] - 1;
        }
        int best = lost + Math.min(fit(a, b, i + 1, j, memo), fit(a, b, i, j + 1, memo));
        int apart = Math.abs(a.get(i)[0] - b.get(j)[0]);
        if (a.get(i)[1] == b.get(j)[1] && apart <= grain) {
            best = Math.min(best, apart + fit(a, b, i + 1, j + 1, memo));
        }
        memo[i][j] = best + 1;
        return best;
    }

    /** The foils of the stocks: for each set of foils still free the best of the stocks behind. */
    int[] chest() {
        String things = grain + " " + lost + " " + limit;
        for (int k = 0; k < 10; k++) {
            for (int[] c : stocks.get(k)) {
                things += " s" + k + "," + c[0] + "," + c[1];
            }
            for (int[] c : foils.get(k)) {
                things += " f" + k + "," + c[0] + "," + c[1];
            }
        }
        if (!things.equals(chestOf)) {
            chestOf = things;
            chest = newChest();
        }
        return chest;
    }

    private int[] newChest() {
        int[][] most = new int[11][1024];
        int[][] fits = new int[10][10];
        for (int s = 0; s < 10; s++) {
            for (int f = 0; f < 10; f++) {
                int cost = fit(s, f);
                fits[s][f] = cost >= 0 && cost <= limit ? cost : -1;
            }
        }
        for (int s = 9; s >= 0; s--) {
            for (int free = 0; free < 1024; free++) {
                most[s][free] = most[s + 1][free];
                for (int f = 0; f < 10; f++) {
                    if ((free >> f & 1) == 1 && fits[s][f] >= 0) {
                        most[s][free] = Math.max(most[s][free], 10000 - fits[s][f] + most[s + 1][free - (1 << f)]);
                    }
                }
            }
        }
        int[] mates = new int[10];
        int free = 1023;
        for (int s = 0; s < 10; s++) {
            mates[s] = -1;
            for (int f = 9; f >= 0; f--) {
                if ((free >> f & 1) == 1 && fits[s][f] >= 0
                        && most[s][free] == 10000 - fits[s][f] + most[s + 1][free - (1 << f)]) {
                    mates[s] = f;
                }
            }
            if (mates[s] >= 0) {
                free -= 1 << mates[s];
            }
        }
        return mates;
    }

    int mate(int stock) {
        return in(stock, 0, 9) ? chest()[stock] : -1;
    }

    int matched(int what) {
        int pairs = 0;
        int cost = 0;
        int[] mates = chest();
        for (int s = 0; s < 10; s++) {
            if (mates[s] >= 0) {
                pairs++;
                cost += fit(s, mates[s]);
            }
        }
        return what == 0 ? pairs : what == 1 ? cost : -1;
    }

    // ---- acts

    private int act(char kind, int shire, int term, int amount, ModelWrit writ) {
        if (acts.size() == 200) {
            return -1;
        }
        acts.add(new Act(kind, shire, term, amount, writ));
        return acts.size();
    }

    int writ(int term) {
        String text = tape;
        tape = "";
        if (!in(term, 0, 39) || acts.size() == 200) {
            return -2;
        }
        ModelWrit writ = new ModelWrit(text);
        fault = writ.fault;
        faultAt = writ.faultAt;
        return fault == 0 ? act('w', 0, term, 0, writ) : -1;
    }

    int fault(int what) {
        return what == 0 ? fault : what == 1 ? faultAt : -1;
    }

    int force(int term) {
        ModelWrit writ = in(term, 0, 39) ? writOf(term, now(), 0) : null;
        return writ == null ? -1 : writ.statements.size();
    }

    private int payment(char kind, int shire, int term, int amount) {
        long payments = acts.stream().filter(a -> a.kind == 'c' || a.kind == 't').count();
        boolean can = in(shire, 0, 7) && in(term, 0, 39) && payments < 60;
        return can ? act(kind, shire, term, amount, null) : -1;
    }

    int pays(int shire, int term, int pence) {
        return in(pence, 1, 1000000) ? payment('c', shire, term, pence) : -1;
    }

    int tally(int shire, int term, int stock) {
        return in(stock, 0, 9) ? payment('t', shire, term, stock) : -1;
    }

    int fire(int term, int lostOf240) {
        return in(term, 0, 39) && in(lostOf240, 0, 120) ? act('f', 0, term, lostOf240, null) : -1;
    }

    int annul(int which) {
        if (!in(which, 1, acts.size()) || acts.get(which - 1).kind == 'v' || isVoid(which, acts.size())) {
            return -1;
        }
        voidedBy[which] = act('v', 0, 0, which, null);
        return voidedBy[which];
    }

    boolean as(int which) {
        if (!in(which, -1, acts.size())) {
            return false;
        }
        as = which;
        return true;
    }

    private int now() {
        return as == -1 ? acts.size() : as;
    }

    private boolean isVoid(int which, int at) {
        return voidedBy[which] > 0 && voidedBy[which] <= at;
    }

    private boolean isKnown(int which, int at, int without) {
        return which <= at && which != without && !isVoid(which, at) && acts.get(which - 1).kind != 'v';
    }

    // ---- the roll

    private ModelWrit writOf(int term, int at, int without) {
        Act best = null;
        for (int i = 1; i <= at; i++) {
            Act a = acts.get(i - 1);
            if (a.kind == 'w' && a.term <= term && isKnown(i, at, without) && (best == null || a.term >= best.term)) {
                best = a;
            }
        }
        return best == null ? null : best.writ;
    }

    private int fireOf(int term, int at, int without) {
        for (int i = at; i >= 1; i--) {
            if (isKnown(i, at, without) && acts.get(i - 1).kind == 'f' && acts.get(i - 1).term == term) {
                return acts.get(i - 1).amount;
            }
        }
        return 0;
    }

    Told told(int shire, int until, int at, int without, int movedAct, int movedTo) {
        int[] mates = acts.stream().anyMatch(a -> a.kind == 't') ? chest() : new int[10];
        long[] due = new long[100];
        long debt = 0;
        for (int term = 0; ; term++) {
            long farms = 0;
            long allowed = 0;
            long pardoned = 0;
            long paid = 0;
            boolean blanched = false;
            debt += due[term];
            due[term] = 0;
            ModelWrit writ = writOf(term, at, without);
            List<ModelWrit.Duty> duties = writ == null ? new ArrayList<>() : writ.statements;
            for (ModelWrit.Duty d : duties) {
                if (d.word().equals("farm") && d.test().at(shire, term, debt, 0) == 1) {
                    long n = Math.max(0, d.sum().at(shire, term, debt, 0));
                    farms += n;
                    debt += n;
                    blanched |= d.blanched();
                }
            }
            for (ModelWrit.Duty d : duties) {
                if (d.word().equals("allow") && d.test().at(shire, term, debt, 0) == 1) {
                    long n = Math.max(0, d.sum().at(shire, term, debt, 0));
                    allowed += n;
                    debt -= n;
                }
            }
            for (ModelWrit.Duty d : duties) {
                if (d.word().equals("pardon") && d.test().at(shire, term, debt, 0) == 1 && debt > 0) {
                    long n = debt * d.first() / d.second();
                    pardoned += n;
                    debt -= n;
                }
            }
            for (int i = 1; i <= at; i++) {
                Act a = acts.get(i - 1);
                int when = i == movedAct ? movedTo : a.term;
                if (!isKnown(i, at, without) || a.shire != shire || when != term) {
                    continue;
                }
                if (a.kind == 'c') {
                    paid += a.amount - (blanched ? 1L * a.amount * fireOf(term, at, without) / 240 : 0);
                } else if (a.kind == 't' && mates[a.amount] >= 0) {
                    paid += sum(false, a.amount);
                }
            }
            debt -= paid;
            for (ModelWrit.Duty d : duties) {
                if (d.word().equals("split") && d.test().at(shire, term, debt, paid) == 1 && debt > 0) {
                    long part = debt / d.first();
                    for (int i = 1; i < d.first(); i++) {
                        due[term + i] += part;
                        debt -= part;
                    }
                }
            }
            if (term == until) {
                long later = 0;
                for (long n : due) {
                    later += n;
                }
                return new Told(debt, later, farms, allowed, pardoned, paid);
            }
        }
    }

    long roll(int shire, int term, int what) {
        if (!in(shire, 0, 7) || !in(term, 0, 39) || !in(what, 0, 6)) {
            return -2000000000000L;
        }
        Told t = told(shire, term, now(), 0, 0, 0);
        long quit = t.debt <= 0 && t.later == 0 ? 1 : 0;
        return new long[] {t.debt, t.later, t.farms, t.allowed, t.pardoned, t.paid, quit}[what];
    }

    long owed(int term) {
        if (!in(term, 0, 39)) {
            return -1;
        }
        long all = 0;
        for (int shire = 0; shire < 8; shire++) {
            all += Math.max(0, roll(shire, term, 0));
        }
        return all;
    }

    int slip(int shire, int term, long debt) {
        if (!in(shire, 0, 7) || !in(term, 0, 39)) {
            return -2;
        }
        moved = -1;
        if (roll(shire, term, 0) == debt) {
            return 0;
        }
        for (int i = 1; i <= now(); i++) {
            if (isKnown(i, now(), 0) && told(shire, term, now(), i, 0, 0).debt == debt) {
                return i;
            }
        }
        for (int i = 1; i <= now(); i++) {
            Act a = acts.get(i - 1);
            if (isKnown(i, now(), 0) && (a.kind == 'c' || a.kind == 't') && a.shire == shire) {
                for (int to = 0; to < 40; to++) {
                    if (to != a.term && told(shire, term, now(), 0, i, to).debt == debt) {
                        moved = to;
                        return i;
                    }
                }
            }
        }
        return -1;
    }

    int moved() {
        return moved;
    }

    int since(int shire, int term) {
        if (!in(shire, 0, 7) || !in(term, 0, 39)) {
            return -1;
        }
        long debt = told(shire, term, acts.size(), 0, 0, 0).debt;
        int first = acts.size();
        while (first > 0 && told(shire, term, first - 1, 0, 0, 0).debt == debt) {
            first--;
        }
        return first;
    }

    int all(int what) {
        long there = what == 2 ? stocks.stream().filter(h -> !h.isEmpty()).count()
                : foils.stream().filter(h -> !h.isEmpty()).count();
        return what == 0 ? acts.size() : what == 1 ? now() : what == 2 || what == 3 ? (int) there : -1;
    }
}
