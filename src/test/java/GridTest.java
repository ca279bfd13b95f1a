/**
 * Each call with all that its numbers can be at and beside their bounds, in several states: a new object, one
 * with something of everything, one with 200 ACTS, one with all HALVES and a full tape. The model answers alike.
 */
final class GridTest {
    private static final int MIN = Integer.MIN_VALUE;
    private static final int MAX = Integer.MAX_VALUE;
    private static final int[] PLACE = {MIN, -1, 0, 1, 11, 12, 13, MAX};
    private static final int[] COUNT = {MIN, -1, 0, 1, 98, 99, 100, MAX};
    private static final int[] SUM = {MIN, -1, 0, 1, 5, 6, 11, 12, 119, 120, 11999999, 12000000, 999999999, 1000000000,
        1000000001, MAX};
    private static final int[] STICK = {MIN, -1, 0, 1, 8, 9, 10, MAX};
    private static final int[] NOTCH = {MIN, -1, 0, 1, 239, 240, 241, MAX};
    private static final int[] WORTH = {MIN, -1, 0, 1, 4, 5, 6, MAX};
    private static final int[] GRAIN = {MIN, -1, 0, 1, 3, 19, 20, 21, MAX};
    private static final int[] LOST = {MIN, -1, 0, 1, 2, 99, 100, 101, MAX};
    private static final int[] LIMIT = {MIN, -1, 0, 1, 20, 499, 500, 501, MAX};
    private static final int[] TERM = {MIN, -1, 0, 1, 19, 38, 39, 40, MAX};
    private static final int[] SHIRE = {MIN, -1, 0, 1, 6, 7, 8, MAX};
    private static final int[] PENCE = {MIN, -1, 0, 1, 2, 999999, 1000000, 1000001, MAX};
    private static final int[] FIRE = {MIN, -1, 0, 1, 119, 120, 121, MAX};
    private static final int[] ACT = {MIN, -2, -1, 0, 1, 2, 3, 5, 6, 7, 8, 199, 200, 201, MAX};
    private static final int[] WHAT = {MIN, -2, -1, 0, 1, 2, 3, 4, 5, 6, 7, 8, MAX};
    private static final int[] BYTES = {MIN, -1, 0, 1, 18, 19, 20, 579, 580, 581, 599, 600, 601, MAX};
    private static final int STATES = 4;
    private static final int CALLS = 150;

    private final int state;
    private ChequeredCloth x;
    private Model m;
    private int calls = CALLS;

    private GridTest(int ofState) {
        state = ofState;
    }

    public static void main(String[] args) {
        for (int state = 0; state < STATES; state++) {
            GridTest grid = new GridTest(state);
            grid.cloth();
            grid.tallies();
            grid.writs();
            grid.payments();
            grid.others();
            grid.rolls();
        }
        Check.close("GridTest");
    }

    /** A new pair in this state, when the one before had its calls. */
    private void ready(int some) {
        calls += some;
        if (calls <= CALLS) {
            return;
        }
        calls = some;
        x = new ChequeredCloth();
        m = new Model();
        if (state == 1) {
            some();
        } else if (state == 2) {
            manyActs();
        } else if (state == 3) {
            manyHalves();
        }
    }

    private void feed(String text) {
        Texts.feed(x, text);
        m.tape += text;
    }

    private void some() {
        for (int place = 0; place < 13; place++) {
            x.put(place, 7 * place % 12);
            m.put(place, 7 * place % 12);
        }
        for (int k = 0; k < 10; k += 3) {
            x.cut(false, k, 10 + k, 2);
            m.cut(false, k, 10 + k, 2);
            x.cut(true, 9 - k, 11 + k, 2);
            m.cut(true, 9 - k, 11 + k, 2);
        }
        feed("farm 1000 blanched for all; farm debt / 3 for term < 9; split 3 for term = 38;");
        Check.due("writ", x.writ(0), m.writ(0));
        int[][] pays = {{0, 0, 100}, {1, 38, 999}, {0, 38, 240}};
        for (int[] p : pays) {
            Check.due("pays", x.pays(p[0], p[1], p[2]), m.pays(p[0], p[1], p[2]));
        }
        Check.due("fire", x.fire(0, 50), m.fire(0, 50));
        Check.due("tally", x.tally(0, 1, 3), m.tally(0, 1, 3));
        Check.due("annul", x.annul(4), m.annul(4));
        feed("split 2 for all;xyz");
    }

    private void manyActs() {
        feed("farm 1000 blanched for all; split 2 for term = 0;");
        Check.due("writ", x.writ(0), m.writ(0));
        for (int i = 2; i <= 200; i++) {
            boolean pays = i % 4 == 0;
            Check.due("act", pays ? x.pays(i % 8, i % 40, i) : x.fire(i % 40, i % 121),
                    pays ? m.pays(i % 8, i % 40, i) : m.fire(i % 40, i % 121));
        }
    }

    private void manyHalves() {
        for (int i = 0; i < 240; i++) {
            int notch = i / 20 * 20 + i * 7 % 4;
            Check.due("cut", x.cut(i % 20 > 9, i % 10, notch, i / 100), m.cut(i % 20 > 9, i % 10, notch, i / 100));
        }
        feed(" ".repeat(600));
    }

    private void due(String call, long got, long want) {
        Check.due("state " + state + ": " + call, got, want);
    }

    private void due(String call, boolean got, boolean want) {
        due(call, got ? 1 : 0, want ? 1 : 0);
    }

    private void cloth() {
        for (int place : PLACE) {
            for (int n : COUNT) {
                ready(3);
                due("put(" + place + ", " + n + ")", x.put(place, n), m.put(place, n));
                due("lies(" + place + ")", x.lies(place), m.lies(place));
                due("worth()", x.worth(), m.worth());
            }
            for (int sum : SUM) {
                ready(1);
                due("plain(" + sum + ", " + place + ")", x.plain(sum, place), m.plain(sum, place));
            }
        }
        for (int sum : SUM) {
            for (int place : PLACE) {
                ready(6);
                x.put(place, 99);
                m.put(place, 99);
                due("steps(" + sum + ")", x.steps(sum), m.steps(sum));
                due("lay(" + sum + ")", x.lay(sum), m.lay(sum));
                due("worth()", x.worth(), m.worth());
                due("draw(" + sum + ")", x.draw(sum), m.draw(sum));
                due("worth()", x.worth(), m.worth());
            }
        }
    }

    private void tallies() {
        for (int k : STICK) {
            for (int notch : NOTCH) {
                for (int worth : WORTH) {
                    for (boolean foil : new boolean[] {false, true}) {
                        ready(2);
                        due("cut(" + foil + ", " + k + ", " + notch + ", " + worth + ")",
                                x.cut(foil, k, notch, worth), m.cut(foil, k, notch, worth));
                        due("sum(" + foil + ", " + k + ")", x.sum(foil, k), m.sum(foil, k));
                    }
                }
                ready(1);
                due("burn(" + (notch > 0) + ", " + k + ")", x.burn(notch > 0, k), m.burn(notch > 0, k));
            }
            for (int other : STICK) {
                ready(2);
                due("fit(" + k + ", " + other + ")", x.fit(k, other), m.fit(k, other));
                due("mate(" + k + ")", x.mate(k), m.mate(k));
            }
        }
        for (int grain : GRAIN) {
            for (int lost : LOST) {
                for (int limit : LIMIT) {
                    ready(3);
                    due("wear(" + grain + ", " + lost + ", " + limit + ")",
                            x.wear(grain, lost, limit), m.wear(grain, lost, limit));
                    due("matched(0)", x.matched(0), m.matched(0));
                    due("matched(1)", x.matched(1), m.matched(1));
                }
            }
        }
        for (int what : WHAT) {
            ready(2);
            due("matched(" + what + ")", x.matched(what), m.matched(what));
            due("all(" + what + ")", x.all(what), m.all(what));
        }
    }

    private void writs() {
        for (int n : BYTES) {
            ready(40);
            due("end(" + n + ")", x.end(n), m.end(n));
            due("feed", x.feed(n, 0x20202020, 0x3b3b3b3b, -1, MIN), m.feed(n, 0x20202020, 0x3b3b3b3b, -1, MIN));
        }
        for (int term : TERM) {
            for (String text : new String[] {"", "split 2 for all;", "split 1", "!", "farm ((((((("}) {
                ready(9);
                x.end(0);
                m.end(0);
                feed(text);
                due("writ(" + term + ")", x.writ(term), m.writ(term));
                due("end(1)", x.end(1), m.end(1));
                due("force(" + term + ")", x.force(term), m.force(term));
                due("fault(0)", x.fault(0), m.fault(0));
                due("fault(1)", x.fault(1), m.fault(1));
            }
        }
        for (int what : WHAT) {
            ready(1);
            due("fault(" + what + ")", x.fault(what), m.fault(what));
        }
    }

    private void payments() {
        for (int shire : SHIRE) {
            for (int term : TERM) {
                for (int pence : PENCE) {
                    ready(2);
                    due("pays(" + shire + ", " + term + ", " + pence + ")",
                            x.pays(shire, term, pence), m.pays(shire, term, pence));
                    due("roll(" + shire + ", " + term + ", 5)", x.roll(shire, term, 5), m.roll(shire, term, 5));
                }
                for (int k : STICK) {
                    ready(2);
                    due("tally(" + shire + ", " + term + ", " + k + ")", x.tally(shire, term, k), m.tally(shire, term, k));
                    due("roll(" + shire + ", " + term + ", 5)", x.roll(shire, term, 5), m.roll(shire, term, 5));
                }
            }
        }
    }

    private void others() {
        for (int term : TERM) {
            for (int lost : FIRE) {
                ready(2);
                due("fire(" + term + ", " + lost + ")", x.fire(term, lost), m.fire(term, lost));
                due("all(0)", x.all(0), m.all(0));
            }
        }
        for (int act : ACT) {
            ready(CALLS);
            due("annul(" + act + ")", x.annul(act), m.annul(act));
            due("annul(" + act + ") again", x.annul(act), m.annul(act));
            for (int as : ACT) {
                due("as(" + as + ")", x.as(as), m.as(as));
                due("all(1)", x.all(1), m.all(1));
                due("roll(0, 39, 0)", x.roll(0, 39, 0), m.roll(0, 39, 0));
                due("force(39)", x.force(39), m.force(39));
            }
        }
    }

    private void rolls() {
        for (int term : TERM) {
            for (int shire : SHIRE) {
                ready(30);
                for (int what : WHAT) {
                    due("roll(" + shire + ", " + term + ", " + what + ")",
                            x.roll(shire, term, what), m.roll(shire, term, what));
                }
                due("since(" + shire + ", " + term + ")", x.since(shire, term), m.since(shire, term));
                long debt = m.roll(shire, term, 0);
                for (long told : new long[] {Long.MIN_VALUE, debt - 1, debt, debt + 1, debt + 100, Long.MAX_VALUE}) {
                    due("slip(" + shire + ", " + term + ", " + told + ")",
                            x.slip(shire, term, told), m.slip(shire, term, told));
                    due("moved()", x.moved(), m.moved());
                }
            }
            ready(1);
            due("owed(" + term + ")", x.owed(term), m.owed(term));
        }
    }
}
