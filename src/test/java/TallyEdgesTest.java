/** The boundary cases of the tallies: Terms II, promises 11 to 17; each sentence by itself, on both sides. */
final class TallyEdgesTest {
    private static final int[] NO_STICKS = {-1, 10, Integer.MIN_VALUE, Integer.MAX_VALUE};

    public static void main(String[] args) {
        all();
        Check.close("TallyEdgesTest");
    }

    static void all() {
        halves();
        fits();
        limits();
        chests();
        bestOfSeveral();
        burning();
        wearing();
        nones();
    }

    /** Cuts a half: a place and a worth each. */
    private static ChequeredCloth cuts(ChequeredCloth x, boolean foil, int k, int... cuts) {
        for (int i = 0; i < cuts.length; i += 2) {
            x.cut(foil, k, cuts[i], cuts[i + 1]);
        }
        return x;
    }

    /** A stock 0 and a foil 0 of a cut each, of one worth and so far apart. */
    private static ChequeredCloth apart(int places) {
        return cuts(cuts(new ChequeredCloth(), false, 0, 100, 3), true, 0, 100 + places, 3);
    }

    /** Halves of one cut each, all alike. */
    private static ChequeredCloth alike(int[] stocks, int[] foils) {
        ChequeredCloth x = new ChequeredCloth();
        for (int k : stocks) {
            x.cut(false, k, 5, 0);
        }
        for (int k : foils) {
            x.cut(true, k, 5, 0);
        }
        return x;
    }

    private static void mates(String when, ChequeredCloth x, int... mates) {
        for (int k = 0; k < mates.length; k++) {
            Check.due(when + ": mate(" + k + ")", x.mate(k), mates[k]);
        }
    }

    private static void halves() {
        Check.says("II: a HALF is a row of up to 12 CUTS");
        ChequeredCloth x = new ChequeredCloth();
        for (int i = 1; i <= 12; i++) {
            Check.due("cut " + i, x.cut(true, 5, i, 0), i);
        }
        Check.due("cut 13", x.cut(true, 5, 13, 0), -1);
        Check.due("its sum stays", x.sum(true, 5), 12);
        Check.says("II: each at 0 .. 240 of the stick");
        for (boolean foil : new boolean[] {false, true}) {
            for (int place : new int[] {-1, 241, Integer.MIN_VALUE, Integer.MAX_VALUE}) {
                Check.due("cut at " + place, x.cut(foil, 0, place, 0), -1);
                Check.due("no half came of it", x.sum(foil, 0), -1);
            }
            Check.due("cut at 0", x.cut(foil, 0, 0, 0), 1);
            Check.due("cut at 240", x.cut(foil, 0, 240, 0), 2);
            Check.due("cut at 241", x.cut(foil, 0, 241, 0), -1);
            Check.due("sum", x.sum(foil, 0), 2);
        }
        Check.says("II: going up (none twice)");
        Check.due("cut at 100", x.cut(false, 1, 100, 0), 1);
        Check.due("cut at 99", x.cut(false, 1, 99, 0), -1);
        Check.due("cut at 100 again", x.cut(false, 1, 100, 1), -1);
        Check.due("cut at 101", x.cut(false, 1, 101, 0), 2);
        Check.due("cut at 100 again", x.cut(false, 1, 100, 0), -1);
        Check.due("sum", x.sum(false, 1), 2);
        Check.says("II: of a WORTH 0 .. 5 (1, 12, 240, 4800, 24000, 240000)");
        int[] worths = {1, 12, 240, 4800, 24000, 240000};
        for (int worth = 0; worth < 6; worth++) {
            x = new ChequeredCloth();
            Check.due("cut of worth " + worth, x.cut(false, 0, 0, worth), 1);
            Check.due("its sum", x.sum(false, 0), worths[worth]);
        }
        for (int worth : new int[] {-1, 6, Integer.MIN_VALUE, Integer.MAX_VALUE}) {
            Check.due("cut of worth " + worth, x.cut(false, 0, 9, worth), -1);
            Check.due("the sum stays", x.sum(false, 0), 240000);
            Check.due("the cut did not come", x.cut(false, 1, 9, worth), -1);
        }
        Check.due("no stock came of it", x.all(2), 1);
        Check.says("II: STOCKS 0 .. 9 and FOILS 0 .. 9");
        x = new ChequeredCloth();
        for (int k : NO_STICKS) {
            Check.due("cut(false, " + k + ")", x.cut(false, k, 0, 0), -1);
            Check.due("cut(true, " + k + ")", x.cut(true, k, 0, 0), -1);
        }
        Check.due("no stock, no foil", x.all(2) + x.all(3), 0);
        for (int k = 0; k < 10; k++) {
            Check.due("cut(false, " + k + ")", x.cut(false, k, k, 0), 1);
            Check.due("cut(true, " + k + ")", x.cut(true, k, k, 1), 1);
            Check.due("stocks", x.all(2), k + 1);
            Check.due("foils", x.all(3), k + 1);
        }
        for (int k = 0; k < 10; k++) {
            Check.due("sum(false, " + k + ")", x.sum(false, k), 1);
            Check.due("sum(true, " + k + ")", x.sum(true, k), 12);
        }
        Check.says("II: its SUM: of its CUTS");
        x = new ChequeredCloth();
        for (int i = 0; i < 12; i++) {
            x.cut(false, 0, 20 * i, 5);
        }
        Check.due("the greatest sum", x.sum(false, 0), 12 * 240000);
        Check.says("11: how many it has; NONE when something can't be, or it has 12");
        Check.due("cut 13 at its end", x.cut(false, 0, 240, 5), -1);
        Check.due("the sum stays", x.sum(false, 0), 12 * 240000);
        Check.due("cut of the foil of that number", x.cut(true, 0, 240, 5), 1);
        Check.due("cut 2 of it", x.cut(true, 0, 240, 5), -1);
        Check.due("its sum stays", x.sum(true, 0), 240000);
    }

    private static void fits() {
        Check.says("II: FIT: a pair costs how far apart its places are, not more than GRAIN (3 at first)");
        int[] costs = {0, 1, 2, 3, 16, 16};
        for (int places = 0; places < costs.length; places++) {
            Check.due("fit of " + places + " apart", apart(places).fit(0, 0), costs[places]);
            Check.due("fit of " + places + " apart, downward", apart(-places).fit(0, 0), costs[places]);
        }
        Check.says("II: FIT: GRAIN (0 .. 20)");
        ChequeredCloth x = apart(0);
        Check.due("wear(0, 100, 20)", x.wear(0, 100, 20), true);
        Check.due("fit by grain 0", x.fit(0, 0), 0);
        x = apart(1);
        Check.due("wear(0, 100, 20)", x.wear(0, 100, 20), true);
        Check.due("fit of 1 by grain 0", x.fit(0, 0), 200);
        x = apart(20);
        Check.due("wear(19, 100, 20)", x.wear(19, 100, 20), true);
        Check.due("fit of 20 by grain 19", x.fit(0, 0), 200);
        Check.due("wear(20, 100, 20)", x.wear(20, 100, 20), true);
        Check.due("fit of 20 by grain 20", x.fit(0, 0), 20);
        x = apart(21);
        Check.due("wear(20, 100, 20)", x.wear(20, 100, 20), true);
        Check.due("fit of 21 by grain 20", x.fit(0, 0), 200);
        Check.says("II: FIT: a CUT left alone costs LOST (1 .. 100; 8 at first)");
        x = cuts(apart(0), false, 0, 200, 0);
        Check.due("one alone", x.fit(0, 0), 8);
        Check.due("wear(3, 1, 20)", x.wear(3, 1, 20), true);
        Check.due("one alone", x.fit(0, 0), 1);
        Check.due("wear(3, 100, 20)", x.wear(3, 100, 20), true);
        Check.due("one alone", x.fit(0, 0), 100);
        x.cut(true, 0, 200, 1);
        Check.due("two alone, one of each half", x.fit(0, 0), 200);
        Check.says("II: FIT: a pair must be of one WORTH");
        for (int worth = 0; worth < 6; worth++) {
            x = cuts(cuts(new ChequeredCloth(), false, 0, 9, worth), true, 0, 9, worth);
            Check.due("of one worth", x.fit(0, 0), 0);
            x = cuts(cuts(new ChequeredCloth(), false, 0, 9, worth), true, 0, 9, (worth + 1) % 6);
            Check.due("of two worths", x.fit(0, 0), 16);
        }
        Check.says("II: FIT: CUTS are paired in order, some left alone");
        x = cuts(cuts(new ChequeredCloth(), false, 0, 10, 0, 11, 1), true, 0, 10, 1, 11, 0);
        Check.due("no pairs that cross", x.fit(0, 0), 1 + 16);
        x = cuts(cuts(new ChequeredCloth(), false, 0, 10, 0, 11, 1, 12, 0), true, 0, 10, 0, 12, 0);
        Check.due("the one between is left alone", x.fit(0, 0), 8);
        x = cuts(cuts(new ChequeredCloth(), false, 0, 50, 0), true, 0, 48, 0, 51, 0, 90, 0);
        Check.due("a cut is paired once", x.fit(0, 0), 1 + 16);
        Check.says("II: FIT: the least cost of all that can be");
        for (int places = 14; places < 20; places++) {
            x = apart(places);
            x.wear(20, 8, 20);
            Check.due("a pair of " + places + ", or two left alone", x.fit(0, 0), Math.min(places, 16));
        }
        x = new ChequeredCloth();
        for (int i = 0; i < 12; i++) {
            x.cut(false, 0, 2 * i, 0);
            x.cut(true, 0, 2 * i + 2, 0);
        }
        Check.due("11 pairs and two alone, better than 12 pairs of 2", x.fit(0, 0), 16);
        x.wear(3, 12, 20);
        Check.due("both alike", x.fit(0, 0), 24);
        x.wear(3, 13, 20);
        Check.due("12 pairs of 2", x.fit(0, 0), 24);
        x.wear(1, 100, 0);
        Check.due("fit is told beyond the limit", x.fit(0, 0), 200);
        x = cuts(cuts(new ChequeredCloth(), false, 0, 0, 0), true, 0, 240, 0);
        for (int i = 1; i < 12; i++) {
            x.cut(false, 0, i, 0);
            x.cut(true, 1, 100 + i, 0);
        }
        x.cut(true, 1, 200, 0);
        x.wear(20, 100, 0);
        Check.due("24 cuts left alone", x.fit(0, 1), 2400);
        Check.due("13 cuts left alone", x.fit(0, 0), 1300);
    }

    /** A stock 0 and a foil 0 of that FIT by a GRAIN of 3 and a LOST of 8 (16 .. 22). */
    private static ChequeredCloth fitting(int fit) {
        ChequeredCloth x = cuts(new ChequeredCloth(), false, 0, 10, 0, 50, 0, 100, 0);
        int rest = fit - 16;
        return cuts(x, true, 0, 10 + Math.min(3, rest), 0, 50 + Math.max(0, rest - 3), 0, 100, 1);
    }

    private static void limits() {
        Check.says("II: FIT not above LIMIT (20 at first)");
        for (int fit = 16; fit <= 22; fit++) {
            ChequeredCloth x = fitting(fit);
            Check.due("fit", x.fit(0, 0), fit);
            Check.due("mate(0) of fit " + fit, x.mate(0), fit <= 20 ? 0 : -1);
            Check.due("matched(0) of fit " + fit, x.matched(0), fit <= 20 ? 1 : 0);
            Check.due("matched(1) of fit " + fit, x.matched(1), fit <= 20 ? fit : 0);
        }
        Check.says("II: LIMIT (0 .. 500)");
        for (int fit = 0; fit < 2; fit++) {
            ChequeredCloth x = apart(fit);
            Check.due("wear(3, 8, 0)", x.wear(3, 8, 0), true);
            Check.due("mate(0) of fit " + fit + " by limit 0", x.mate(0), fit == 0 ? 0 : -1);
        }
        for (int fit = 500; fit < 502; fit++) {
            ChequeredCloth x = cuts(apart(fit - 500), false, 0, 200, 1, 201, 1, 202, 1, 203, 1, 204, 1);
            Check.due("wear(3, 100, 500)", x.wear(3, 100, 500), true);
            Check.due("fit", x.fit(0, 0), fit);
            Check.due("mate(0) of fit " + fit + " by limit 500", x.mate(0), fit == 500 ? 0 : -1);
            Check.due("matched(0)", x.matched(0), fit == 500 ? 1 : 0);
        }
    }

    private static void chests() {
        Check.says("II: THE CHEST: pairs of STOCKS and FOILS that are there");
        ChequeredCloth x = new ChequeredCloth();
        mates("nothing there", x, -1, -1, -1, -1, -1, -1, -1, -1, -1, -1);
        Check.due("matched(0) of nothing", x.matched(0), 0);
        Check.due("matched(1) of nothing", x.matched(1), 0);
        x = alike(new int[] {0, 9}, new int[] {});
        mates("stocks alone", x, -1, -1);
        x = alike(new int[] {}, new int[] {0, 9});
        mates("foils alone", x, -1, -1);
        Check.due("matched(0)", x.matched(0), 0);
        x = alike(new int[] {9}, new int[] {9});
        mates("the last of each", x, -1, -1, -1, -1, -1, -1, -1, -1, -1, 9);
        Check.says("II: THE CHEST: each in one at most");
        x = alike(new int[] {3, 4, 5}, new int[] {7, 8});
        Check.due("matched(0) of 3 and 2", x.matched(0), 2);
        x = alike(new int[] {3, 4}, new int[] {6, 7, 8});
        Check.due("matched(0) of 2 and 3", x.matched(0), 2);
        mates("2 and 3", x, -1, -1, -1, 6, 7);
        Check.says("II: THE CHEST: the most pairs");
        x = cuts(cuts(new ChequeredCloth(), false, 0, 10, 0), false, 1, 8, 0);
        cuts(cuts(x, true, 0, 10, 0), true, 1, 13, 0);
        Check.due("two pairs of 3 and 2, not one of 0", x.matched(0), 2);
        Check.due("their fit", x.matched(1), 5);
        mates("two pairs", x, 1, 0);
        x = new ChequeredCloth();
        for (int k = 0; k < 10; k++) {
            x.cut(false, k, 10 * k + 3, 0);
            x.cut(true, k, 10 * k + 10, 0);
        }
        x.wear(7, 100, 20);
        mates("ten in a row, each as ill as can be", x, 0, 1, 2, 3, 4, 5, 6, 7, 8, 9);
        Check.due("ten pairs of 7, not nine of 3", x.matched(1), 70);
        x.burn(true, 9);
        Check.due("nine foils for ten stocks", x.matched(0), 9);
        Check.due("now nine of 3", x.matched(1), 27);
        x.cut(true, 9, 0, 0);
        mates("ten of 3", x, 9, 0, 1, 2, 3, 4, 5, 6, 7, 8);
    }

    private static void bestOfSeveral() {
        Check.says("II: THE CHEST: of several the least sum of FIT");
        ChequeredCloth x = cuts(cuts(new ChequeredCloth(), false, 0, 10, 0), false, 1, 11, 0);
        cuts(cuts(x, true, 0, 11, 0), true, 1, 10, 0);
        mates("crosswise costs 0, straight 2", x, 1, 0);
        Check.due("matched(1)", x.matched(1), 0);
        x = cuts(cuts(new ChequeredCloth(), false, 0, 10, 0), false, 1, 12, 0);
        cuts(cuts(x, true, 0, 12, 0), true, 1, 13, 0);
        mates("2 and 1, or 3 and 0: both 3, the lesser foil first", x, 0, 1);
        x = cuts(cuts(new ChequeredCloth(), false, 0, 10, 0), false, 1, 12, 0);
        cuts(x, true, 0, 12, 0);
        mates("the one that fits best has it", x, -1, 0);
        x = cuts(cuts(new ChequeredCloth(), false, 0, 10, 0), true, 0, 11, 0);
        cuts(x, true, 9, 10, 0);
        mates("ahead of the lesser number, by 1", x, 9);
        Check.says("II: THE CHEST: of several that in which the first STOCK that differs has the FOIL of the lesser number");
        int[] all = {0, 1, 2, 3, 4, 5, 6, 7, 8, 9};
        x = alike(all, all);
        mates("all alike", x, all);
        Check.due("ten pairs", x.matched(0), 10);
        x = alike(new int[] {8, 9}, new int[] {8, 9});
        mates("the last two", x, -1, -1, -1, -1, -1, -1, -1, -1, 8, 9);
        x = alike(new int[] {0, 1, 2}, new int[] {0});
        cuts(cuts(x, true, 8, 6, 0), true, 9, 4, 0);
        mates("0 first, though then the others have greater ones", x, 0, 8, 9);
        // 8 and 9 would have 1 and 0, or 0 and 9; all four cost 2
        x = cuts(cuts(new ChequeredCloth(), false, 8, 10, 0), false, 9, 14, 0);
        cuts(cuts(cuts(x, true, 0, 12, 0), true, 1, 8, 0), true, 9, 16, 0);
        mates("0 rather than 1 goes ahead of 0 rather than 9", x, -1, -1, -1, -1, -1, -1, -1, -1, 0, 9);
        x = cuts(cuts(new ChequeredCloth(), false, 0, 10, 0), false, 1, 14, 0);
        cuts(cuts(cuts(x, true, 8, 12, 0), true, 9, 8, 0), true, 0, 16, 0);
        mates("8 rather than 9", x, 8, 0);
        x = cuts(cuts(new ChequeredCloth(), false, 0, 10, 0), false, 1, 10, 0);
        cuts(cuts(cuts(x, false, 2, 12, 0), true, 5, 11, 0), true, 6, 11, 0);
        mates("of three with fit 1 the first two", x, 5, 6, -1);
        Check.says("II: THE CHEST: (none last)");
        x = alike(all, new int[] {9});
        mates("the first stock has it", x, 9, -1, -1, -1, -1, -1, -1, -1, -1, -1);
        x = alike(all, new int[] {4, 9});
        mates("the first two have them", x, 4, 9, -1, -1, -1, -1, -1, -1, -1, -1);
        x.burn(false, 0);
        mates("the next two", x, -1, 4, 9, -1);
        // 7 without one and 8 with 1, or 7 with 1 and 8 with 2 and 9 without
        x = cuts(cuts(cuts(new ChequeredCloth(), false, 7, 10, 0), false, 8, 14, 0), false, 9, 18, 0);
        cuts(cuts(x, true, 1, 12, 0), true, 0, 16, 0);
        mates("the last goes without", x, -1, -1, -1, -1, -1, -1, -1, 1, 0, -1);
    }

    private static void burning() {
        Check.says("12: a HALF is none any more (all its CUTS go): true; false when there is none such");
        ChequeredCloth x = cuts(apart(0), false, 0, 150, 1, 240, 2);
        Check.due("burn(false, 0)", x.burn(false, 0), true);
        Check.due("sum(false, 0)", x.sum(false, 0), -1);
        Check.due("sum(true, 0) stays", x.sum(true, 0), 4800);
        Check.due("burn(false, 0) again", x.burn(false, 0), false);
        Check.due("sum(true, 0) stays", x.sum(true, 0), 4800);
        for (int k : NO_STICKS) {
            Check.due("burn(false, " + k + ")", x.burn(false, k), false);
            Check.due("burn(true, " + k + ")", x.burn(true, k), false);
        }
        Check.due("foils", x.all(3), 1);
        Check.due("cut below the old cuts", x.cut(false, 0, 0, 0), 1);
        Check.due("sum of the new one alone", x.sum(false, 0), 1);
        for (int i = 2; i <= 12; i++) {
            Check.due("cut " + i, x.cut(false, 0, i, 0), i);
        }
        Check.due("cut 13", x.cut(false, 0, 13, 0), -1);
        Check.due("burn(true, 0)", x.burn(true, 0), true);
        Check.due("burn(true, 9), never there", x.burn(true, 9), false);
        Check.says("12: one without CUTS is not there");
        x = new ChequeredCloth();
        Check.due("burn(false, 9)", x.burn(false, 9), false);
        Check.due("sum(false, 9)", x.sum(false, 9), -1);
        Check.due("all(2)", x.all(2), 0);
        x.cut(false, 9, 0, 0);
        Check.due("all(2)", x.all(2), 1);
        Check.due("burn(false, 9)", x.burn(false, 9), true);
        Check.due("all(2)", x.all(2), 0);
    }

    private static void wearing() {
        Check.says("14: GRAIN, LOST, LIMIT: true; false when one can't be");
        int[][] wrong = {{-1, 7, 9}, {21, 7, 9}, {2, 0, 9}, {2, 101, 9}, {2, 7, -1}, {2, 7, 501}, {21, 101, 501},
            {Integer.MIN_VALUE, 7, 9}, {2, Integer.MAX_VALUE, 9}, {2, 7, Integer.MIN_VALUE}};
        for (int[] w : wrong) {
            ChequeredCloth x = cuts(cuts(fitting(20), false, 1, 10, 4), true, 1, 13, 4);
            Check.due("wear(" + w[0] + ", " + w[1] + ", " + w[2] + ")", x.wear(w[0], w[1], w[2]), false);
            Check.due("grain and lost stay", x.fit(0, 0), 20);
            Check.due("grain stays", x.fit(1, 1), 3);
            Check.due("lost stays", x.fit(1, 0), 32);
            Check.due("limit stays", x.matched(0), 2);
        }
        int[][] right = {{0, 1, 0}, {20, 100, 500}, {0, 100, 500}, {20, 1, 0}};
        for (int[] w : right) {
            ChequeredCloth x = apart(2);
            Check.due("wear(" + w[0] + ", " + w[1] + ", " + w[2] + ")", x.wear(w[0], w[1], w[2]), true);
            Check.due("fit by it", x.fit(0, 0), w[0] == 20 ? 2 : 2 * w[1]);
            Check.due("matched by it", x.matched(0), w[2] == 500 ? 1 : 0);
        }
    }

    /** One object that is asked after each cut, burning and wear, and a new one each time that is not. */
    private static void stepByStep() {
        int[][] steps = {{0, 0, 10}, {1, 0, 12}, {0, 1, 11}, {1, 1, 9}, {0, 9, 12}, {1, 9, 10}, {0, 0, -1}, {1, 9, -1},
            {0, 3, 8}, {1, 3, 13}, {1, 0, -1}, {0, 0, 14}, {1, 0, 11}, {0, 1, -1}, {1, 1, -1}, {1, 8, 10}, {1, 9, 15}};
        ChequeredCloth x = new ChequeredCloth();
        for (int i = 0; i < steps.length; i++) {
            step(x, steps[i]);
            ChequeredCloth fresh = new ChequeredCloth();
            for (int j = 0; j <= i; j++) {
                step(fresh, steps[j]);
            }
            Check.due("matched(1) after step " + i, x.matched(1), fresh.matched(1));
            Check.due("matched(0) after step " + i, x.matched(0), fresh.matched(0));
            for (int k : new int[] {0, 1, 3, 9}) {
                Check.due("mate(" + k + ") after step " + i, x.mate(k), fresh.mate(k));
                Check.due("fit(" + k + ", 0) after step " + i, x.fit(k, 0), fresh.fit(k, 0));
                Check.due("fit(3, " + k + ") after step " + i, x.fit(3, k), fresh.fit(3, k));
            }
        }
    }

    private static void step(ChequeredCloth x, int[] step) {
        if (step[2] < 0) {
            x.burn(step[0] == 1, step[1]);
        } else {
            x.cut(step[0] == 1, step[1], step[2], 0);
        }
    }

    private static void nones() {
        ChequeredCloth x = alike(new int[] {9}, new int[] {0, 9});
        Check.says("13: SUM of a HALF; NONE when there is none such");
        Check.due("sum(false, 9)", x.sum(false, 9), 1);
        Check.due("sum(false, 8)", x.sum(false, 8), -1);
        Check.due("sum(true, 0)", x.sum(true, 0), 1);
        Check.due("sum(false, 0): a stock, not that foil", x.sum(false, 0), -1);
        for (int k : NO_STICKS) {
            Check.due("sum(false, " + k + ")", x.sum(false, k), -1);
            Check.due("sum(true, " + k + ")", x.sum(true, k), -1);
        }
        Check.says("15: FIT of a STOCK and a FOIL; NONE when there are none such");
        Check.due("fit(9, 9)", x.fit(9, 9), 0);
        Check.due("fit(9, 0)", x.fit(9, 0), 0);
        Check.due("fit(9, 1)", x.fit(9, 1), -1);
        Check.due("fit(0, 9)", x.fit(0, 9), -1);
        Check.due("fit(8, 1)", x.fit(8, 1), -1);
        for (int k : NO_STICKS) {
            Check.due("fit(9, " + k + ")", x.fit(9, k), -1);
            Check.due("fit(" + k + ", 9)", x.fit(k, 9), -1);
        }
        x.burn(true, 9);
        Check.due("fit(9, 9), burnt", x.fit(9, 9), -1);
        Check.says("15: FIT of the CUTS that a STOCK and a FOIL have now");
        ChequeredCloth y = new ChequeredCloth();
        for (int k = 0; k < 10; k++) {
            y.cut(false, k, 5, 0);
            y.cut(true, k, 5, 0);
        }
        for (int k = 0; k < 10; k += 3) {
            for (int i = 0; i < 20; i++) {
                y.fit(i % 10, k);
                y.fit(k, i % 10);
            }
            y.cut(true, k, 100, 0);
            for (int i = 0; i < 10; i++) {
                Check.due("fit(" + i + ", " + k + "), a cut more", y.fit(i, k), i < k && i % 3 == 0 ? 0 : 8);
            }
            y.cut(false, k, 100, 0);
            for (int i = 0; i < 10; i++) {
                Check.due("fit(" + k + ", " + i + "), a cut more", y.fit(k, i), i <= k && i % 3 == 0 ? 0 : 8);
            }
        }
        Check.says("16: the FOIL of a STOCK (as things are now); NONE when it has none, or is none");
        Check.due("mate(9)", x.mate(9), 0);
        x.burn(true, 0);
        Check.due("mate(9) has none any more", x.mate(9), -1);
        x.cut(true, 4, 8, 0);
        Check.due("mate(9)", x.mate(9), 4);
        x.wear(2, 8, 15);
        Check.due("mate(9) by a lesser grain", x.mate(9), -1);
        x.cut(true, 5, 6, 0);
        Check.due("mate(9)", x.mate(9), 5);
        x.burn(false, 9);
        Check.due("mate(9) is none", x.mate(9), -1);
        stepByStep();
        for (int k : NO_STICKS) {
            Check.due("mate(" + k + ")", x.mate(k), -1);
        }
        Check.says("17: 0 how many pairs, 1 the sum of FIT; NONE for others");
        x = apart(3);
        Check.due("matched(1), asked first", x.matched(1), 3);
        Check.due("matched(0), asked first", apart(3).matched(0), 1);
        x = cuts(alike(new int[] {1}, new int[] {2}), true, 0, 200, 0);
        Check.due("matched(0)", x.matched(0), 1);
        Check.due("matched(1)", x.matched(1), 0);
        for (int what : new int[] {-1, 2, Integer.MIN_VALUE, Integer.MAX_VALUE}) {
            Check.due("matched(" + what + ")", x.matched(what), -1);
        }
        x = new ChequeredCloth();
        for (int k = 0; k < 10; k++) {
            x.cut(false, k, 0, 0);
            for (int i = 1; i <= 4; i++) {
                x.cut(true, k, 100 + i, 0);
            }
        }
        x.wear(0, 100, 500);
        Check.due("matched(0) of ten pairs", x.matched(0), 10);
        Check.due("matched(1): ten of 500, the most there can be", x.matched(1), 5000);
    }
}
