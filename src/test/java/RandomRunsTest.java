/** Runs of calls by dice, each call told to the class and to the model, which must answer alike. */
final class RandomRunsTest {
    private final Dice dice;
    private final ChequeredCloth x = new ChequeredCloth();
    private final Model m = new Model();
    private final StringBuilder calls = new StringBuilder();
    /** An object is used for 512 calls; the longest of what is done at once, a WRIT, takes 36. */
    private static final int MOST_CALLS = 512 - 36;
    private int called = 0;
    private static final int[] KINDS = new int[8];

    private RandomRunsTest(long seed) {
        dice = new Dice(seed);
    }

    public static void main(String[] args) {
        int runs = args.length > 1 ? Integer.parseInt(args[1]) : 1000;
        long first = args.length > 2 ? Long.parseLong(args[2]) : 1;
        for (long seed = first; seed < first + runs; seed++) {
            RandomRunsTest run = new RandomRunsTest(seed);
            int before = Check.wrongs();
            run.go((int) (seed % 4));
            if (Check.wrongs() > before) {
                System.out.println("run " + seed + ":" + run.calls);
                break;
            }
        }
        StringBuilder kinds = new StringBuilder("slips: none differing, left out, moved, none; writs: good, faults 1, 2, 3 or 4:");
        for (int n : KINDS) {
            kinds.append(' ').append(n);
            Check.due("a kind of answer came", n > 0, true);
        }
        System.out.println(kinds);
        Check.close("RandomRunsTest");
    }

    private void due(String call, long got, long want) {
        called++;
        calls.append("\n  ").append(call).append(" -> ").append(got).append(got == want ? "" : " due " + want);
        Check.due(call, got, want);
    }

    private void go(int theme) {
        int before = Check.wrongs();
        for (int i = 0; i < 500 && called <= MOST_CALLS && Check.wrongs() == before; i++) {
            int kind = theme == 3 ? dice.of(3) : dice.in(6) ? dice.of(3) : theme;
            if (kind == 0) {
                cloth();
            } else if (kind == 1) {
                tallies();
            } else {
                acts();
            }
        }
    }

    private int sum() {
        switch (dice.of(5)) {
            case 0:
                return dice.any();
            case 1:
                return dice.from(0, 300);
            case 2:
                return dice.from(0, 100000);
            case 3:
                return Model.WORTHS[dice.of(13)] * dice.from(0, 80);
            default:
                return dice.from(0, 1000000000);
        }
    }

    private void cloth() {
        int place = dice.in(9) ? dice.any() : dice.of(13);
        switch (dice.of(8)) {
            case 0:
            case 1: {
                int n = dice.in(9) ? dice.any() : dice.in(2) ? dice.of(100) : dice.of(5);
                due("put(" + place + ", " + n + ")", x.put(place, n) ? 1 : 0, m.put(place, n) ? 1 : 0);
                break;
            }
            case 2:
                due("lies(" + place + ")", x.lies(place), m.lies(place));
                break;
            case 3: {
                int sum = sum();
                due("plain(" + sum + ", " + place + ")", x.plain(sum, place), m.plain(sum, place));
                break;
            }
            case 4: {
                int sum = sum();
                due("lay(" + sum + ")", x.lay(sum), m.lay(sum));
                break;
            }
            case 5: {
                int sum = sum();
                due("draw(" + sum + ")", x.draw(sum), m.draw(sum));
                break;
            }
            case 6:
                if (dice.in(4)) {
                    int sum = sum();
                    due("steps(" + sum + ")", x.steps(sum), m.steps(sum));
                }
                break;
            default:
                due("worth()", x.worth(), m.worth());
        }
        for (int p = 0; p < 13 && dice.of(8) > 0; p++) {
            due("lies(" + p + ")", x.lies(p), m.lies(p));
        }
    }

    private int stick() {
        return dice.in(20) ? dice.any() : dice.in(3) ? dice.of(10) : dice.of(4);
    }

    private void tallies() {
        boolean foil = dice.in(2);
        int k = stick();
        switch (dice.of(10)) {
            case 0: {
                due("burn(" + foil + ", " + k + ")", x.burn(foil, k) ? 1 : 0, m.burn(foil, k) ? 1 : 0);
                break;
            }
            case 1:
                due("sum(" + foil + ", " + k + ")", x.sum(foil, k), m.sum(foil, k));
                break;
            case 2: {
                if (dice.in(3)) {
                    int grain = dice.in(9) ? dice.any() : dice.of(21);
                    int lost = dice.in(9) ? dice.any() : dice.in(2) ? dice.from(1, 10) : dice.from(1, 100);
                    int limit = dice.in(9) ? dice.any() : dice.in(2) ? dice.of(60) : dice.of(501);
                    due("wear(" + grain + ", " + lost + ", " + limit + ")",
                            x.wear(grain, lost, limit) ? 1 : 0, m.wear(grain, lost, limit) ? 1 : 0);
                }
                break;
            }
            case 3: {
                int other = stick();
                due("fit(" + k + ", " + other + ")", x.fit(k, other), m.fit(k, other));
                break;
            }
            case 4:
            case 5:
                due("mate(" + k + ")", x.mate(k), m.mate(k));
                break;
            case 6: {
                int what = dice.in(9) ? dice.any() : dice.of(2);
                due("matched(" + what + ")", x.matched(what), m.matched(what));
                break;
            }
            default: {
                int n = dice.from(1, dice.in(4) ? 13 : 3);
                int at = dice.of(dice.in(3) ? 241 : 10);
                for (int i = 0; i < n; i++) {
                    int place = dice.in(50) ? dice.any() : at;
                    int worth = dice.in(50) ? dice.any() : dice.of(dice.in(2) ? 6 : 2);
                    due("cut(" + foil + ", " + k + ", " + place + ", " + worth + ")",
                            x.cut(foil, k, place, worth), m.cut(foil, k, place, worth));
                    at += dice.from(0, dice.in(3) ? 20 : 4);
                }
            }
        }
    }

    private int term() {
        return dice.in(20) ? dice.any() : dice.in(4) ? dice.of(40) : dice.of(6);
    }

    private int shire() {
        return dice.in(20) ? dice.any() : dice.in(6) ? dice.of(8) : dice.of(2);
    }

    private void acts() {
        int shire = shire();
        int term = term();
        switch (dice.of(16)) {
            case 0:
                tape();
                break;
            case 1:
            case 2:
            case 3: {
                int pence = dice.in(12) ? dice.any() : dice.in(3) ? dice.from(1, 1000000) : dice.from(1, 500);
                due("pays(" + shire + ", " + term + ", " + pence + ")",
                        x.pays(shire, term, pence), m.pays(shire, term, pence));
                break;
            }
            case 4: {
                int k = stick();
                due("tally(" + shire + ", " + term + ", " + k + ")", x.tally(shire, term, k), m.tally(shire, term, k));
                break;
            }
            case 5: {
                int lost = dice.in(9) ? dice.any() : dice.of(121);
                due("fire(" + term + ", " + lost + ")", x.fire(term, lost), m.fire(term, lost));
                break;
            }
            case 6: {
                int act = dice.in(9) ? dice.any() : dice.from(0, m.acts.size() + 1);
                due("annul(" + act + ")", x.annul(act), m.annul(act));
                break;
            }
            case 7: {
                int act = dice.in(2) ? -1 : dice.in(5) ? dice.any() : dice.from(0, m.acts.size() + 1);
                due("as(" + act + ")", x.as(act) ? 1 : 0, m.as(act) ? 1 : 0);
                break;
            }
            case 8:
                due("force(" + term + ")", x.force(term), m.force(term));
                break;
            case 9:
                due("owed(" + term + ")", x.owed(term), m.owed(term));
                break;
            case 10:
                due("since(" + shire + ", " + term + ")", x.since(shire, term), m.since(shire, term));
                break;
            case 11:
                slip(shire, term);
                break;
            case 12: {
                int what = dice.in(9) ? dice.any() : dice.of(4);
                due("all(" + what + ")", x.all(what), m.all(what));
                break;
            }
            default: {
                int what = dice.in(9) ? dice.any() : dice.of(7);
                due("roll(" + shire + ", " + term + ", " + what + ")",
                        x.roll(shire, term, what), m.roll(shire, term, what));
            }
        }
    }

    private void slip(int shire, int term) {
        long told = m.roll(shire, term, 0);
        if (m.acts.size() > 0 && Model.in(shire, 0, 7) && Model.in(term, 0, 39)) {
            int one = dice.from(1, m.acts.size());
            switch (dice.of(8)) {
                case 0:
                    break;
                case 1:
                case 2:
                    told = m.told(shire, term, m.all(1), one, 0, 0).debt();
                    break;
                case 3:
                case 4:
                case 5:
                    for (int i = 0; i < m.acts.size() && m.acts.get(one - 1).shire() != shire; i++) {
                        one = one % m.acts.size() + 1;
                    }
                    told = m.told(shire, term, m.all(1), 0, one, dice.of(dice.in(3) ? 40 : 6)).debt();
                    break;
                default:
                    told += dice.from(-1000, 1000);
            }
        }
        int answer = m.slip(shire, term, told);
        KINDS[answer == 0 ? 0 : answer == -1 ? 3 : m.moved() == -1 ? 1 : 2]++;
        due("slip(" + shire + ", " + term + ", " + told + ")", x.slip(shire, term, told), answer);
        due("moved()", x.moved(), m.moved());
    }

    private void tape() {
        String text = Texts.writ(dice, 4);
        if (dice.in(3)) {
            text = Texts.marred(dice, text);
        }
        for (int i = 0; i < text.length() && i < 640; i += 20) {
            int[] w = new int[5];
            for (int j = 0; j < 5; j++) {
                w[j] = Texts.word(text, i + 4 * j);
            }
            due("feed of twenty bytes", x.feed(w[0], w[1], w[2], w[3], w[4]), m.feed(w));
        }
        int n = dice.in(20) ? dice.any() : Math.min(text.length(), 600);
        due("end(" + n + ")", x.end(n) ? 1 : 0, m.end(n) ? 1 : 0);
        int term = dice.in(20) ? dice.any() : dice.in(2) ? 0 : term();
        String said = m.tape;
        int answer = m.writ(term);
        due("writ(" + term + ") of \"" + said + "\"", x.writ(term), answer);
        due("fault(0)", x.fault(0), m.fault(0));
        due("fault(1)", x.fault(1), m.fault(1));
        KINDS[answer != -1 ? 4 : m.fault == 1 ? 5 : m.fault == 2 ? 6 : 7]++;
    }
}
