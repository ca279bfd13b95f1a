/** Promises 11 to 17: the halves of tallies, their fit, and the chest matched. */
final class TallyTest {
    public static void main(String[] args) {
        cut();
        burn();
        sum();
        wear();
        fit();
        mostPairsFirst();
        leastFitNext();
        leastFoilsLast();
        matchedAnew();
        wholeChest();
        Check.close("TallyTest");
    }

    /** Cuts a half: a place and a worth each. */
    private static void cuts(ChequeredCloth x, boolean foil, int k, int... cuts) {
        for (int i = 0; i < cuts.length; i += 2) {
            Check.due("cut", x.cut(foil, k, cuts[i], cuts[i + 1]) > 0, true);
        }
    }

    private static void cut() {
        ChequeredCloth x = new ChequeredCloth();
        Check.due("cut at 0", x.cut(false, 9, 0, 5), 1);
        Check.due("cut at 0 once more", x.cut(false, 9, 0, 5), -1);
        Check.due("cut at 1", x.cut(false, 9, 1, 5), 2);
        Check.due("cut below", x.cut(false, 9, 0, 5), -1);
        Check.due("cut at 240", x.cut(false, 9, 240, 0), 3);
        Check.due("cut at 241", x.cut(true, 9, 241, 0), -1);
        Check.due("cut at -1", x.cut(true, 9, -1, 0), -1);
        Check.due("cut of worth 6", x.cut(true, 9, 5, 6), -1);
        Check.due("cut of worth -1", x.cut(true, 9, 5, -1), -1);
        Check.due("cut of stock 10", x.cut(false, 10, 5, 0), -1);
        Check.due("cut of stock -1", x.cut(false, -1, 5, 0), -1);
        Check.due("cut of foil 10", x.cut(true, 10, 5, 0), -1);
        Check.due("cut of foil -1", x.cut(true, -1, 5, 0), -1);
        Check.due("stocks there", x.all(2), 1);
        Check.due("foils there", x.all(3), 0);
        for (int i = 0; i < 12; i++) {
            Check.due("cut " + i, x.cut(true, 0, i, i % 6), i + 1);
        }
        Check.due("cut 13", x.cut(true, 0, 200, 0), -1);
        Check.due("foils there", x.all(3), 1);
        Check.due("the stock of that number is untouched", x.sum(false, 0), -1);
    }

    private static void burn() {
        ChequeredCloth x = new ChequeredCloth();
        cuts(x, false, 3, 10, 1, 20, 2);
        Check.due("burn of the foil, which is not there", x.burn(true, 3), false);
        Check.due("burn", x.burn(false, 3), true);
        Check.due("burn again", x.burn(false, 3), false);
        Check.due("sum of a burnt one", x.sum(false, 3), -1);
        Check.due("stocks there", x.all(2), 0);
        Check.due("cut anew below the old cuts", x.cut(false, 3, 5, 0), 1);
        Check.due("sum anew", x.sum(false, 3), 1);
        for (int k : new int[] {-1, 10, Integer.MAX_VALUE, Integer.MIN_VALUE}) {
            Check.due("burn(false, " + k + ")", x.burn(false, k), false);
            Check.due("burn(true, " + k + ")", x.burn(true, k), false);
        }
    }

    private static void sum() {
        ChequeredCloth x = new ChequeredCloth();
        cuts(x, true, 4, 0, 0, 1, 1, 2, 2, 3, 3, 4, 4, 5, 5);
        Check.due("sum of one each", x.sum(true, 4), 1 + 12 + 240 + 4800 + 24000 + 240000);
        cuts(x, false, 4, 0, 5, 1, 5, 2, 5, 3, 5, 4, 5, 5, 5, 6, 5, 7, 5, 8, 5, 9, 5, 10, 5, 11, 5);
        Check.due("the greatest sum", x.sum(false, 4), 12 * 240000);
        Check.due("sum(false, 10)", x.sum(false, 10), -1);
        Check.due("sum(true, -1)", x.sum(true, -1), -1);
    }

    private static void wear() {
        ChequeredCloth x = new ChequeredCloth();
        cuts(x, false, 0, 50, 0);
        cuts(x, true, 0, 53, 0);
        cuts(x, true, 1, 54, 0);
        Check.due("grain 3 at first", x.fit(0, 0), 3);
        Check.due("lost 8 at first", x.fit(0, 1), 16);
        Check.due("limit 20 at first", x.matched(0), 1);
        Check.due("wear(20, 100, 500)", x.wear(20, 100, 500), true);
        Check.due("fit by it", x.fit(0, 1), 4);
        Check.due("wear(0, 1, 0)", x.wear(0, 1, 0), true);
        Check.due("fit by it", x.fit(0, 1), 2);
        Check.due("matched by limit 0", x.matched(0), 0);
        int[][] wrong = {{-1, 1, 0}, {21, 1, 0}, {0, 0, 0}, {0, 101, 0}, {0, 1, -1}, {0, 1, 501}};
        for (int[] w : wrong) {
            Check.due("wear(" + w[0] + ", " + w[1] + ", " + w[2] + ")", x.wear(w[0], w[1], w[2]), false);
            Check.due("fit stays", x.fit(0, 1), 2);
        }
    }

    private static void fit() {
        ChequeredCloth x = new ChequeredCloth();
        cuts(x, false, 0, 10, 0, 12, 0);
        cuts(x, true, 0, 12, 0);
        Check.due("the nearer of two", x.fit(0, 0), 8);
        cuts(x, true, 1, 11, 1, 12, 1);
        Check.due("of another worth", x.fit(0, 1), 32);
        cuts(x, true, 2, 10, 0, 13, 0, 100, 3);
        Check.due("two pairs, one lost", x.fit(0, 2), 0 + 1 + 8);
        x.wear(20, 1, 20);
        Check.due("two left alone cost less than a far pair", x.fit(0, 0), 1);
        cuts(x, false, 1, 10, 0, 20, 1);
        cuts(x, true, 3, 10, 1, 20, 0);
        x.wear(20, 50, 20);
        Check.due("no pairs that cross", x.fit(1, 3), 10 + 100);
        Check.due("fit of a stock that is not there", x.fit(9, 0), -1);
        Check.due("fit of a foil that is not there", x.fit(0, 9), -1);
        Check.due("fit(10, 0)", x.fit(10, 0), -1);
        Check.due("fit(0, 10)", x.fit(0, 10), -1);
        Check.due("fit(-1, 0)", x.fit(-1, 0), -1);
        Check.due("fit(0, -1)", x.fit(0, -1), -1);
        x.cut(true, 0, 200, 5);
        Check.due("fit after one cut more", x.fit(0, 0), 100);
        x.burn(true, 0);
        Check.due("fit after burning", x.fit(0, 0), -1);
    }

    private static void mostPairsFirst() {
        ChequeredCloth x = new ChequeredCloth();
        // stock 0 fits foil 0 wholly, but stock 1 fits foil 0 alone
        cuts(x, false, 0, 10, 0);
        cuts(x, false, 1, 12, 0);
        cuts(x, true, 0, 10, 0);
        cuts(x, true, 1, 7, 0);
        x.wear(3, 8, 3);
        Check.due("pairs", x.matched(0), 2);
        Check.due("fit of all", x.matched(1), 3 + 2);
        Check.due("mate(0)", x.mate(0), 1);
        Check.due("mate(1)", x.mate(1), 0);
        x.wear(3, 8, 1);
        Check.due("pairs within 1", x.matched(0), 1);
        Check.due("mate(0) within 1", x.mate(0), 0);
        Check.due("mate(1) within 1", x.mate(1), -1);
    }

    private static void leastFitNext() {
        ChequeredCloth x = new ChequeredCloth();
        cuts(x, false, 0, 10, 0);
        cuts(x, false, 1, 11, 0);
        cuts(x, true, 0, 11, 0);
        cuts(x, true, 1, 10, 0);
        Check.due("mate(0): crosswise costs nothing", x.mate(0), 1);
        Check.due("mate(1)", x.mate(1), 0);
        Check.due("fit of all", x.matched(1), 0);
    }

    private static void leastFoilsLast() {
        ChequeredCloth x = new ChequeredCloth();
        for (int k : new int[] {2, 5, 9}) {
            cuts(x, false, k, 10, 0);
        }
        for (int k : new int[] {1, 4}) {
            cuts(x, true, k, 10, 0);
        }
        int[] mates = {-1, -1, 1, -1, -1, 4, -1, -1, -1, -1};
        for (int k = 0; k < 10; k++) {
            Check.due("mate(" + k + "): the first stocks have the least foils", x.mate(k), mates[k]);
        }
        cuts(x, true, 0, 10, 0);
        Check.due("mate(2)", x.mate(2), 0);
        Check.due("mate(5)", x.mate(5), 1);
        Check.due("mate(9)", x.mate(9), 4);
        x.burn(false, 2);
        Check.due("mate(5)", x.mate(5), 0);
        Check.due("mate(9)", x.mate(9), 1);
    }

    private static void matchedAnew() {
        ChequeredCloth x = new ChequeredCloth();
        Check.due("no pairs", x.matched(0), 0);
        Check.due("no fit", x.matched(1), 0);
        for (int what : new int[] {-1, 2, Integer.MAX_VALUE, Integer.MIN_VALUE}) {
            Check.due("matched(" + what + ")", x.matched(what), -1);
        }
        cuts(x, false, 0, 10, 0);
        cuts(x, true, 7, 10, 0);
        Check.due("mate(0)", x.mate(0), 7);
        cuts(x, true, 3, 10, 0);
        Check.due("mate(0) after a cut", x.mate(0), 3);
        cuts(x, false, 0, 20, 0, 30, 0, 40, 0);
        Check.due("mate(0) beyond the limit", x.mate(0), -1);
        x.wear(3, 8, 24);
        Check.due("mate(0) at the limit", x.mate(0), 3);
        x.burn(false, 0);
        Check.due("mate(0) burnt", x.mate(0), -1);
        Check.due("mate(10)", x.mate(10), -1);
        Check.due("mate(-1)", x.mate(-1), -1);
    }

    /** Whole chests, by the model that tries all sets of foils. */
    private static void wholeChest() {
        Dice dice = new Dice(17);
        for (int run = 0; run < 60; run++) {
            ChequeredCloth x = new ChequeredCloth();
            Model m = new Model();
            int spread = dice.from(1, 12);
            for (int half = 0; half < 20; half++) {
                int at = dice.of(4);
                for (int i = dice.from(0, 12); i > 0; i--) {
                    int worth = dice.of(dice.in(3) ? 3 : 1);
                    Check.due("cut", x.cut(half > 9, half % 10, at, worth), m.cut(half > 9, half % 10, at, worth));
                    at += dice.from(1, spread);
                }
            }
            int grain = dice.of(21);
            int lost = dice.from(1, 12);
            int limit = dice.in(3) ? 500 : dice.of(60);
            x.wear(grain, lost, limit);
            m.wear(grain, lost, limit);
            for (int k = 0; k < 10; k++) {
                Check.due("mate(" + k + ") of a whole chest", x.mate(k), m.mate(k));
                Check.due("fit(" + k + ", 0)", x.fit(k, 0), m.fit(k, 0));
            }
            Check.due("matched(0)", x.matched(0), m.matched(0));
            Check.due("matched(1)", x.matched(1), m.matched(1));
        }
    }
}
